theorem inX1_tellNeighbour_X1 : ∀ w ∈ wsX10, w ∈ wsX1_tellNeighbour := by decide +kernel
set_option maxHeartbeats 4000000 in
set_option maxRecDepth 100000 in
/-- X1_tellNeighbour -/
theorem c_X1_tellNeighbour (l : Launch) (nW : Nat) (D : va_G) (cA : Nat → ClassId) (ad : Nat → Nat) (hi : inj nW ad) (hNW : 102 ≤ nW) (I : SI) (J : SJ) (X : SX) (sz : Nat) (n o : Nat) (x : Int32) (k : Nat) (hn : n < 9) (ho : o < 9) (hc : k < 2 ^ 31 ∧ I 28 n = nI k) : Met l yX1_tellNeighbour wsX1_tellNeighbour ({ frames := 0, cells := 0, slots := 0, locals := 0 }) (va_Pc [.ref (ad 1), .int (nI (n)), .int (nI (o)), .int (x)] (wPre nW D cA ad I J X sz)) (qV nW D cA ad sz (tnI I n o x k) J X) 0 0 (fr nW ad sz) := by
  refine Met.ofW (cc := cX1_tellNeighbour) (maxL := 5) (ret := none) (by decide) rfl ?_
  intro p e s m args below meth c s₁ B hml hv
  obtain ⟨rfl, rfl, hP, hK⟩ := hv
  have hx := B.exec
  have hb := B.bytes
  have hr := B.returns
  have hts := atoms_spec (ws := wsX1_tellNeighbour) B.pre
  have hown : s.vm.findClass RX1 = some m.cls := findClass_of_methodNamed B.named
  have hlocks := B.notSynchronized
  have hS : va_S (fr nW ad s.heap.size) s.heap s.heap [] := va_S.rf
  have hA : ∀ k, k < nW → fr nW ad s.heap.size (ad k) := fr_ad
  have hl := lv_entry ([.ref (ad 1), .int (nI (n)), .int (nI (o)), .int (x)]) (n := 5) (Nat.le_of_ble_eq_true rfl)
  rw [lg_entry_eq]
  generalize (lg_sl ([.ref (ad 1), .int (nI (n)), .int (nI (o)), .int (x)]) ++ List.replicate (5 - (lg_sl ([.ref (ad 1), .int (nI (n)), .int (nI (o)), .int (x)])).length) Slot.unset).toArray = ls at hl ⊢
  have hl : lv_has ls 5 [(0, .ref (ad 1)), (1, .int (nI (n))), (2, .int (nI (o))), (3, .int (x))] := hl
  have hS0 := hS
  obtain ⟨hk31, hc⟩ := hc
  suffices K : ∀ (H : Heap) (locs : List Loc), WP nW D cA ad I J X H → va_S (fr nW ad s.heap.size) s.heap H locs → W p l e (headSpec wsX1_tellNeighbour ({ frames := 0, cells := 0, slots := 0, locals := 0 })).room s m ([.ref (ad 1), .int (nI (n)), .int (nI (o)), .int (x)] : List Value).toArray below meth c H locs 0 0 (MQ below (qV nW D cA ad s.heap.size (tnI I n o x k) J X) ([.ref (ad 1), .int (nI (n)), .int (nI (o)), .int (x)] : List Value).toArray s 0 0 (fr nW ad s.heap.size)) (F0 m 0 ls []) from K _ _ hP hS
  clear hP hS hS0
  intro H locs hP hS
  refine lv_aload_n hx hb dX1_tellNeighbour_0 rfl (lv_at hl 0 rfl) ?_
  refine w_get (C := RX1) (T := TX1) (N := 6) (v := .ref (ad 8)) (index := 20) hx hb hts inX1_tellNeighbour_X1 hown hK hP 1 2 ⟨rfl, rfl, by decide⟩ (by omega) rfl (List.mem_of_getElem? (i := 1) rfl) (fun _ h9 => h9) dX1_tellNeighbour_1 ?_
  refine lv_iload_n hx hb dX1_tellNeighbour_4 rfl (lv_at hl 1 rfl) ?_
  refine w_aald hx hb hK hP 8 (n) 9 4 ⟨rfl, (by show n < 9; omega), rfl, rfl, by decide, by decide⟩ (by omega) rfl dX1_tellNeighbour_5 ?_
  refine lv_iload_n hx hb dX1_tellNeighbour_6 rfl (lv_at hl 2 rfl) ?_
  refine lv_iload_n hx hb dX1_tellNeighbour_7 rfl (lv_at hl 3 rfl) ?_
  refine w_iast (v := x) hx hb hK hP hi hA hS (9 + n) (o) (k_walkedR (by omega) (by omega)) (by omega) rfl dX1_tellNeighbour_8 (fun H locs hP hS => ?_)
  obtain ⟨I_1, eI_1⟩ : ∃ y, y = st2 I (9 + n) (o) (x) := ⟨_, rfl⟩
  have hP : WP nW D cA ad I_1 J X H := by rw [eI_1]; exact hP
  refine lv_aload_n hx hb dX1_tellNeighbour_9 rfl (lv_at hl 0 rfl) ?_
  refine w_get (C := RX1) (T := TX1) (N := 6) (v := .ref (ad 28)) (index := 26) hx hb hts inX1_tellNeighbour_X1 hown hK hP 1 4 ⟨rfl, rfl, by decide⟩ (by omega) rfl (List.mem_of_getElem? (i := 2) rfl) (fun _ h9 => h9) dX1_tellNeighbour_10 ?_
  refine lv_iload_n hx hb dX1_tellNeighbour_13 rfl (lv_at hl 1 rfl) ?_
  refine w_iald hx hb hK hP 28 (n) ⟨rfl, (by show n < 9; omega)⟩ (by omega) rfl dX1_tellNeighbour_14 ?_
  refine w_topN (a := k) (by rw [eI_1]; exact (st2_wc hn).trans hc) ?_
  refine lv_istore (lv' := [(4, .int (nI (k))), (0, .ref (ad 1)), (1, .int (nI (n))), (2, .int (nI (o))), (3, .int (x))]) hx hb dX1_tellNeighbour_15 hl (by decide) rfl (fun ls hl => ?_)
  refine lv_iload_n hx hb dX1_tellNeighbour_17 rfl (lv_at hl 4 rfl) ?_
  refine lv_if_le (tgt := 58) hx hb dX1_tellNeighbour_18 (by decide) (fun cx => ?_) (fun cx => ?_)
  · exact w_vret hx hb hr hlocks hK hP hS ⟨by subst_vars; simp only [tnI]; rw [if_neg (fun z => i32_nlt cx z.1)], by subst_vars; rfl, by subst_vars; rfl⟩ dX1_tellNeighbour_58
  · refine lv_iload hx hb dX1_tellNeighbour_21 (lv_at hl 0 rfl) ?_
    refine lv_bipush (v := 9) hx hb dX1_tellNeighbour_23 (by decide) ?_
    refine lv_icmp_ge (tgt := 58) hx hb dX1_tellNeighbour_25 (by decide) (fun cc9 => ?_) (fun cc9 => ?_)
    · have qcc9 : 9 ≤ k := (wn_le (a := 9) (b := k) rfl rfl (by omega) (by omega)).mp cc9
      have qcc9b : ¬ (0 < x ∧ k < 9) := fun z => absurd z.2 (by omega)
      exact w_vret hx hb hr hlocks hK hP hS ⟨by subst_vars; simp only [tnI]; rw [if_neg (fun z => qcc9b z)], by subst_vars; rfl, by subst_vars; rfl⟩ dX1_tellNeighbour_58
    · have qcc9 : ¬ 9 ≤ k := fun z => cc9 ((wn_le (a := 9) (b := k) rfl rfl (by omega) (by omega)).mpr z)
      refine lv_aload_n hx hb dX1_tellNeighbour_28 rfl (lv_at hl 1 rfl) ?_
      refine w_get (C := RX1) (T := TX1) (N := 6) (v := .ref (ad 18)) (index := 23) hx hb hts inX1_tellNeighbour_X1 hown hK hP 1 3 ⟨rfl, rfl, by decide⟩ (by omega) rfl (List.mem_of_getElem? (i := 3) rfl) (fun _ h9 => h9) dX1_tellNeighbour_29 ?_
      refine lv_iload_n hx hb dX1_tellNeighbour_32 rfl (lv_at hl 2 rfl) ?_
      refine w_aald hx hb hK hP 18 (n) 19 4 ⟨rfl, (by show n < 9; omega), rfl, rfl, by decide, by decide⟩ (by omega) rfl dX1_tellNeighbour_33 ?_
      refine lv_iload hx hb dX1_tellNeighbour_34 (lv_at hl 0 rfl) ?_
      refine lv_iload_n hx hb dX1_tellNeighbour_36 rfl (lv_at hl 3 rfl) ?_
      refine w_iast (v := nI (o)) hx hb hK hP hi hA hS (19 + n) (k) (k_neighR (by omega) (by omega)) (by omega) rfl dX1_tellNeighbour_37 (fun H locs hP hS => ?_)
      obtain ⟨I_2, eI_2⟩ : ∃ y, y = st2 I_1 (19 + n) (k) (nI (o)) := ⟨_, rfl⟩
      have hP : WP nW D cA ad I_2 J X H := by rw [eI_2]; exact hP
      refine lv_aload_n hx hb dX1_tellNeighbour_38 rfl (lv_at hl 1 rfl) ?_
      refine w_get (C := RX1) (T := TX1) (N := 6) (v := .ref (ad 28)) (index := 26) hx hb hts inX1_tellNeighbour_X1 hown hK hP 1 4 ⟨rfl, rfl, by decide⟩ (by omega) rfl (List.mem_of_getElem? (i := 2) rfl) (fun _ h9 => h9) dX1_tellNeighbour_39 ?_
      refine lv_iload_n hx hb dX1_tellNeighbour_42 rfl (lv_at hl 2 rfl) ?_
      refine lv_iload hx hb dX1_tellNeighbour_43 (lv_at hl 0 rfl) ?_
      refine lv_iconst (v := 1) hx hb dX1_tellNeighbour_45 (by decide) ?_
      refine w_iaddN (a := k) (b := 1) hx hb rfl rfl dX1_tellNeighbour_46 ?_
      refine w_iast (v := nI (k + 1)) hx hb hK hP hi hA hS 28 (n) ⟨rfl, (by show n < 9; omega)⟩ (by omega) rfl dX1_tellNeighbour_47 (fun H locs hP hS => ?_)
      obtain ⟨I_3, eI_3⟩ : ∃ y, y = st2 I_2 28 (n) (nI (k + 1)) := ⟨_, rfl⟩
      have hP : WP nW D cA ad I_3 J X H := by rw [eI_3]; exact hP
      refine lv_aload_n hx hb dX1_tellNeighbour_48 rfl (lv_at hl 1 rfl) ?_
      refine w_get (C := RX1) (T := TX1) (N := 6) (v := .ref (ad 29)) (index := 29) hx hb hts inX1_tellNeighbour_X1 hown hK hP 1 5 ⟨rfl, rfl, by decide⟩ (by omega) rfl (List.mem_of_getElem? (i := 4) rfl) (fun _ h9 => h9) dX1_tellNeighbour_49 ?_
      refine lv_iload_n hx hb dX1_tellNeighbour_52 rfl (lv_at hl 2 rfl) ?_
      refine lv_dup2_11 hx hb dX1_tellNeighbour_53 rfl rfl ?_
      refine w_iald hx hb hK hP 29 (n) ⟨rfl, (by show n < 9; omega)⟩ (by omega) rfl dX1_tellNeighbour_54 ?_
      refine lv_iload_n hx hb dX1_tellNeighbour_55 rfl (lv_at hl 4 rfl) ?_
      refine lv_iadd hx hb dX1_tellNeighbour_56 ?_
      refine w_iast (v := (I_3 29 (n)) + x) hx hb hK hP hi hA hS 29 (n) ⟨rfl, (by show n < 9; omega)⟩ (by omega) rfl dX1_tellNeighbour_57 (fun H locs hP hS => ?_)
      obtain ⟨I_4, eI_4⟩ : ∃ y, y = st2 I_3 29 (n) ((I_3 29 (n)) + x) := ⟨_, rfl⟩
      have hP : WP nW D cA ad I_4 J X H := by rw [eI_4]; exact hP
      exact w_vret hx hb hr hlocks hK hP hS ⟨by subst_vars; simp only [tnI]; rw [if_pos ⟨i32_lt cx, by omega⟩], by subst_vars; rfl, by subst_vars; rfl⟩ dX1_tellNeighbour_58

theorem inX1_tellWalked_X1 : ∀ w ∈ wsX10, w ∈ wsX1_tellWalked := by decide +kernel
set_option maxHeartbeats 4000000 in
set_option maxRecDepth 100000 in
theorem lp_X1_tellWalked_A {p : Program} {l : Launch} {e : Env} {s : State} {m : MethodId} {args : Array Value} {below : List Frame} {meth : Method} {c : Code} {Q : State → Prop} {nW : Nat} {D : va_G} {cA : Nat → ClassId} {ad : Nat → Nat} (hi : inj nW ad) (hNW : 102 ≤ nW) (hx : p.tables.exec = Jvm.exec) (hb : c.code = cX1_tellWalked) (hml : c.maxLocals = 4) (hown : s.vm.findClass RX1 = some m.cls) (hts : ∀ w ∈ wsX1_tellWalked, w.before args s = true) (hK : WK D cA s) (I : SI) (J : SJ) (X : SX)  (kx :  ∀ (H : Heap) (locs : List Loc), WP nW D cA ad (tw0 I 9) J X H → va_S (fr nW ad s.heap.size) s.heap H locs → ∀ (ls : Array Slot), lv_has ls 4 [(0, .ref (ad 1))] → W p l e (headSpec wsX1_tellWalked ({ frames := 1, cells := 0, slots := 0, locals := 24 })).room s m args below meth c H locs 0 0 Q (F0 m 28 ls [])) : ∀ (t j : Nat), j + t = 9 →  ∀ (H : Heap) (locs : List Loc), WP nW D cA ad (tw0 I j) J X H → va_S (fr nW ad s.heap.size) s.heap H locs → ∀ (ls : Array Slot), lv_has ls 4 [(1, .int (nI (j))), (0, .ref (ad 1))] → W p l e (headSpec wsX1_tellWalked ({ frames := 1, cells := 0, slots := 0, locals := 24 })).room s m args below meth c H locs 0 0 Q (F0 m 2 ls []) := by
  have hA : ∀ k, k < nW → fr nW ad s.heap.size (ad k) := fr_ad
  intro t
  induction t with
  | zero =>
    intro j hj  H locs hP hS ls hl
    obtain rfl : 9 = j := by omega
    refine lv_iload_n hx hb dX1_tellWalked_2 rfl (lv_at hl 0 rfl) ?_
    refine lv_bipush (v := 9) hx hb dX1_tellWalked_3 (by decide) ?_
    refine lv_icmp_ge (tgt := 28) hx hb dX1_tellWalked_5 (by decide) (fun cc => ?_) (fun cc => ?_)
    · have qcc : 9 ≤ 9 := (wn_le (a := 9) (b := 9) rfl rfl (by omega) (by omega)).mp cc
      exact kx  H locs (w_cong (I1 := (tw0 I 9)) (J1 := J) (X1 := X) hP ⟨(by subst_vars; rfl), rfl, rfl⟩) hS ls (lv_sub hl [1] rfl)
    · have qcc : ¬ 9 ≤ 9 := fun z => cc ((wn_le (a := 9) (b := 9) rfl rfl (by omega) (by omega)).mpr z)
      exact absurd qcc (by omega)
  | succ t ih =>
    intro j hj  H locs hP hS ls hl
    refine lv_iload_n hx hb dX1_tellWalked_2 rfl (lv_at hl 0 rfl) ?_
    refine lv_bipush (v := 9) hx hb dX1_tellWalked_3 (by decide) ?_
    refine lv_icmp_ge (tgt := 28) hx hb dX1_tellWalked_5 (by decide) (fun cc => ?_) (fun cc => ?_)
    · have qcc : 9 ≤ j := (wn_le (a := 9) (b := j) rfl rfl (by omega) (by omega)).mp cc
      exact absurd qcc (by omega)
    · have qcc : ¬ 9 ≤ j := fun z => cc ((wn_le (a := 9) (b := j) rfl rfl (by omega) (by omega)).mpr z)
      refine lv_aload_n hx hb dX1_tellWalked_8 rfl (lv_at hl 1 rfl) ?_
      refine w_get (C := RX1) (T := TX1) (N := 6) (v := .ref (ad 28)) (index := 26) hx hb hts inX1_tellWalked_X1 hown hK hP 1 4 ⟨rfl, rfl, by decide⟩ (by omega) rfl (List.mem_of_getElem? (i := 1) rfl) (fun _ h9 => h9) dX1_tellWalked_9 ?_
      refine lv_iload_n hx hb dX1_tellWalked_12 rfl (lv_at hl 0 rfl) ?_
      refine lv_iconst (v := 0) hx hb dX1_tellWalked_13 (by decide) ?_
      refine w_iast (v := 0) hx hb hK hP hi hA hS 28 (j) ⟨rfl, (by show j < 9; omega)⟩ (by omega) rfl dX1_tellWalked_14 (fun H locs hP hS => ?_)
      obtain ⟨I_1, eI_1⟩ : ∃ y, y = st2 (tw0 I j) 28 (j) (0) := ⟨_, rfl⟩
      have hP : WP nW D cA ad I_1 J X H := by rw [eI_1]; exact hP
      refine lv_aload_n hx hb dX1_tellWalked_15 rfl (lv_at hl 1 rfl) ?_
      refine w_get (C := RX1) (T := TX1) (N := 6) (v := .ref (ad 29)) (index := 29) hx hb hts inX1_tellWalked_X1 hown hK hP 1 5 ⟨rfl, rfl, by decide⟩ (by omega) rfl (List.mem_of_getElem? (i := 2) rfl) (fun _ h9 => h9) dX1_tellWalked_16 ?_
      refine lv_iload_n hx hb dX1_tellWalked_19 rfl (lv_at hl 0 rfl) ?_
      refine lv_iconst (v := 0) hx hb dX1_tellWalked_20 (by decide) ?_
      refine w_iast (v := 0) hx hb hK hP hi hA hS 29 (j) ⟨rfl, (by show j < 9; omega)⟩ (by omega) rfl dX1_tellWalked_21 (fun H locs hP hS => ?_)
      obtain ⟨I_2, eI_2⟩ : ∃ y, y = st2 I_1 29 (j) (0) := ⟨_, rfl⟩
      have hP : WP nW D cA ad I_2 J X H := by rw [eI_2]; exact hP
      refine lv_iinc (v := nI (j + 1)) (lv' := [(1, .int (nI (j + 1))), (0, .ref (ad 1))]) hx hb dX1_tellWalked_22 hl (k := 0) rfl (wn_inc rfl) (by decide) rfl (fun ls hl => ?_)
      refine lv_goto (tgt := 2) hx hb dX1_tellWalked_25 (by decide) ?_
      exact ih (j + 1) (by omega)  H locs (w_cong (I1 := (tw0 I (j + 1))) (J1 := J) (X1 := X) hP ⟨(by subst_vars; rfl), rfl, rfl⟩) hS ls (lv_cong (l := [(1, .int (nI (j + 1))), (0, .ref (ad 1))]) (l' := [(1, .int (nI ((j + 1)))), (0, .ref (ad 1))]) (lv_sub hl [0, 1] rfl) (by subst_vars; rfl))

set_option maxHeartbeats 4000000 in
set_option maxRecDepth 100000 in
theorem lp_X1_tellWalked_C {p : Program} {l : Launch} {e : Env} {s : State} {m : MethodId} {args : Array Value} {below : List Frame} {meth : Method} {c : Code} {Q : State → Prop} {nW : Nat} {D : va_G} {cA : Nat → ClassId} {ad : Nat → Nat} (hi : inj nW ad) (hNW : 102 ≤ nW) (hx : p.tables.exec = Jvm.exec) (hb : c.code = cX1_tellWalked) (hml : c.maxLocals = 4) (hown : s.vm.findClass RX1 = some m.cls) (hts : ∀ w ∈ wsX1_tellWalked, w.before args s = true) (hK : WK D cA s) (I : SI) (J : SJ) (X : SX) (r : Nat) (hr4 : r < 4) (kx :  ∀ (H : Heap) (locs : List Loc), WP nW D cA ad (twIn I r (twOut I r) 5) J X H → va_S (fr nW ad s.heap.size) s.heap H locs → ∀ (ls : Array Slot), lv_has ls 4 [(1, .int (nI (r))), (0, .ref (ad 1))] → W p l e (headSpec wsX1_tellWalked ({ frames := 1, cells := 0, slots := 0, locals := 24 })).room s m args below meth c H locs 0 0 Q (F0 m 89 ls [])) : ∀ (t b : Nat), b + t = 5 →  ∀ (H : Heap) (locs : List Loc), WP nW D cA ad (twIn I r (twOut I r) b) J X H → va_S (fr nW ad s.heap.size) s.heap H locs → ∀ (ls : Array Slot), lv_has ls 4 [(2, .int (nI (b))), (1, .int (nI (r))), (0, .ref (ad 1))] → W p l e (headSpec wsX1_tellWalked ({ frames := 1, cells := 0, slots := 0, locals := 24 })).room s m args below meth c H locs 0 0 Q (F0 m 37 ls []) := by
  have hA : ∀ k, k < nW → fr nW ad s.heap.size (ad k) := fr_ad
  intro t
  induction t with
  | zero =>
    intro b hj  H locs hP hS ls hl
    obtain rfl : 5 = b := by omega
    obtain ⟨u1, u2, u3, u4⟩ := tw_at I hr4 (b := 5) (by omega)
    refine lv_iload_n hx hb dX1_tellWalked_37 rfl (lv_at hl 0 rfl) ?_
    refine lv_iconst (v := 5) hx hb dX1_tellWalked_38 (by decide) ?_
    refine lv_icmp_ge (tgt := 89) hx hb dX1_tellWalked_39 (by decide) (fun cc => ?_) (fun cc => ?_)
    · have qcc : 5 ≤ 5 := (wn_le (a := 5) (b := 5) rfl rfl (by omega) (by omega)).mp cc
      exact kx  H locs (w_cong (I1 := (twIn I r (twOut I r) 5)) (J1 := J) (X1 := X) hP ⟨(by subst_vars; rfl), rfl, rfl⟩) hS ls (lv_sub hl [1, 2] rfl)
    · have qcc : ¬ 5 ≤ 5 := fun z => cc ((wn_le (a := 5) (b := 5) rfl rfl (by omega) (by omega)).mpr z)
      exact absurd qcc (by omega)
  | succ t ih =>
    intro b hj  H locs hP hS ls hl
    obtain ⟨u1, u2, u3, u4⟩ := tw_at I hr4 (b := b) (by omega)
    refine lv_iload_n hx hb dX1_tellWalked_37 rfl (lv_at hl 0 rfl) ?_
    refine lv_iconst (v := 5) hx hb dX1_tellWalked_38 (by decide) ?_
    refine lv_icmp_ge (tgt := 89) hx hb dX1_tellWalked_39 (by decide) (fun cc => ?_) (fun cc => ?_)
    · have qcc : 5 ≤ b := (wn_le (a := 5) (b := b) rfl rfl (by omega) (by omega)).mp cc
      exact absurd qcc (by omega)
    · have qcc : ¬ 5 ≤ b := fun z => cc ((wn_le (a := 5) (b := b) rfl rfl (by omega) (by omega)).mpr z)
      refine lv_aload_n hx hb dX1_tellWalked_42 rfl (lv_at hl 2 rfl) ?_
      refine w_get (C := RX1) (T := TX1) (N := 6) (v := .ref (ad 7)) (index := 16) hx hb hts inX1_tellWalked_X1 hown hK hP 1 1 ⟨rfl, rfl, by decide⟩ (by omega) rfl (List.mem_of_getElem? (i := 3) rfl) (fun _ h9 => h9) dX1_tellWalked_43 ?_
      refine lv_iload_n hx hb dX1_tellWalked_46 rfl (lv_at hl 0 rfl) ?_
      refine w_iald hx hb hK hP 7 (b) ⟨rfl, (by show b < 5; omega)⟩ (by omega) rfl dX1_tellWalked_47 ?_
      refine lv_iconst (v := 2) hx hb dX1_tellWalked_48 (by decide) ?_
      refine lv_icmp_ne (tgt := 56) hx hb dX1_tellWalked_49 (by decide) (fun cb => ?_) (fun cb => ?_)
      · have hw : wOf I r b = I (3 + r) b := by unfold wOf; rw [if_neg (by rw [← u1 7 (by omega)]; exact cb)]
        refine lv_aload_n hx hb dX1_tellWalked_56 rfl (lv_at hl 2 rfl) ?_
        refine w_get (C := RX1) (T := TX1) (N := 6) (v := .ref (ad 2)) (index := 11) hx hb hts inX1_tellWalked_X1 hown hK hP 1 0 ⟨rfl, rfl, by decide⟩ (by omega) rfl (List.mem_of_getElem? (i := 4) rfl) (fun _ h9 => h9) dX1_tellWalked_57 ?_
        refine lv_iload_n hx hb dX1_tellWalked_60 rfl (lv_at hl 1 rfl) ?_
        refine w_aald hx hb hK hP 2 (r) 3 4 ⟨rfl, (by show r < 4; omega), rfl, rfl, by decide, by decide⟩ (by omega) rfl dX1_tellWalked_61 ?_
        refine lv_iload_n hx hb dX1_tellWalked_62 rfl (lv_at hl 0 rfl) ?_
        refine w_iald hx hb hK hP (3 + r) (b) (k_loanR (by omega) (by omega)) (by omega) rfl dX1_tellWalked_63 ?_
        refine lv_topi (fun wx ewx => ?_)
        refine lv_istore_n (lv' := [(3, .int (wx)), (2, .int (nI (b))), (1, .int (nI (r))), (0, .ref (ad 1))]) hx hb dX1_tellWalked_64 rfl hl (by decide) rfl (fun ls hl => ?_)
        refine lv_aload_n hx hb dX1_tellWalked_65 rfl (lv_at hl 3 rfl) ?_
        refine lv_iload_n hx hb dX1_tellWalked_66 rfl (lv_at hl 2 rfl) ?_
        refine lv_iconst (v := 4) hx hb dX1_tellWalked_67 (by decide) ?_
        refine lv_iload_n hx hb dX1_tellWalked_68 rfl (lv_at hl 1 rfl) ?_
        refine w_iaddN (a := 4) (b := b) hx hb rfl rfl dX1_tellWalked_69 ?_
        refine lv_iload_n hx hb dX1_tellWalked_70 rfl (lv_at hl 0 rfl) ?_
        refine w_callv (va_runV (As := [.int (nI (r)), .int (nI (4 + b)), .int (wx)]) (rest := []) ⟨hx, hb, hml, hown, hts⟩ (c_X1_tellNeighbour l nW D cA ad hi hNW (twIn I r (twOut I r) b) J X H.size r (4 + b) wx (cntR I r b) (by omega) (by omega) ⟨Nat.lt_of_le_of_lt (cntR_le I r b) (by omega), u2⟩) (cwV 3 hts gX1_tellWalked_X1_tellNeighbour rfl rfl rfl (by decide +kernel) ⟨Nat.le_of_ble_eq_true rfl, Nat.le_of_ble_eq_true rfl⟩) (w_preV hK hP 1 (by omega) ⟨rfl, rfl⟩ rfl) rfl rfl hl.1 rfl (lv_room (Nat.le_of_ble_eq_true rfl)) dX1_tellWalked_71 ⟨Nat.le_of_ble_eq_true rfl, Nat.le_of_ble_eq_true rfl⟩) hS (fun H locs hP hS => ?_)
        refine lv_aload_n hx hb dX1_tellWalked_74 rfl (lv_at hl 3 rfl) ?_
        refine lv_iconst (v := 4) hx hb dX1_tellWalked_75 (by decide) ?_
        refine lv_iload_n hx hb dX1_tellWalked_76 rfl (lv_at hl 1 rfl) ?_
        refine w_iaddN (a := 4) (b := b) hx hb rfl rfl dX1_tellWalked_77 ?_
        refine lv_iload_n hx hb dX1_tellWalked_78 rfl (lv_at hl 2 rfl) ?_
        refine lv_iload_n hx hb dX1_tellWalked_79 rfl (lv_at hl 0 rfl) ?_
        refine w_callv (va_runV (As := [.int (nI (4 + b)), .int (nI (r)), .int (wx)]) (rest := []) ⟨hx, hb, hml, hown, hts⟩ (c_X1_tellNeighbour l nW D cA ad hi hNW (tnI (twIn I r (twOut I r) b) r (4 + b) wx (cntR I r b)) J X H.size (4 + b) r wx (cntB I b r) (by omega) (by omega) ⟨Nat.lt_of_le_of_lt (cntB_le I b r) (by omega), (tnI_cn (by omega) (by omega)).trans ((u4 b (by omega)).trans (by rw [if_neg (Nat.lt_irrefl b)]))⟩) (cwV 3 hts gX1_tellWalked_X1_tellNeighbour rfl rfl rfl (by decide +kernel) ⟨Nat.le_of_ble_eq_true rfl, Nat.le_of_ble_eq_true rfl⟩) (w_preV hK hP 1 (by omega) ⟨rfl, rfl⟩ rfl) rfl rfl hl.1 rfl (lv_room (Nat.le_of_ble_eq_true rfl)) dX1_tellWalked_80 ⟨Nat.le_of_ble_eq_true rfl, Nat.le_of_ble_eq_true rfl⟩) hS (fun H locs hP hS => ?_)
        refine lv_iinc (v := nI (b + 1)) (lv' := [(2, .int (nI (b + 1))), (3, .int (wx)), (1, .int (nI (r))), (0, .ref (ad 1))]) hx hb dX1_tellWalked_83 hl (k := 1) rfl (wn_inc rfl) (by decide) rfl (fun ls hl => ?_)
        refine lv_goto (tgt := 37) hx hb dX1_tellWalked_86 (by decide) ?_
        exact ih (b + 1) (by omega)  H locs (w_cong (I1 := (twIn I r (twOut I r) (b + 1))) (J1 := J) (X1 := X) hP ⟨(by subst_vars; first | rfl | (show _ = twStep I r b _; unfold twStep; first | (rw [hw]; done) | rw [hw, u1 (3 + r) (by omega)])), rfl, rfl⟩) hS ls (lv_cong (l := [(2, .int (nI (b + 1))), (1, .int (nI (r))), (0, .ref (ad 1))]) (l' := [(2, .int (nI ((b + 1)))), (1, .int (nI (r))), (0, .ref (ad 1))]) (lv_sub hl [0, 2, 3] rfl) (by subst_vars; first | rfl | (show _ = twStep I r b _; unfold twStep; first | (rw [hw]; done) | rw [hw, u1 (3 + r) (by omega)])))
      · have hw : wOf I r b = 0 := by unfold wOf; rw [if_pos (by rw [← u1 7 (by omega)]; exact cb)]
        refine lv_iconst (v := 0) hx hb dX1_tellWalked_52 (by decide) ?_
        refine lv_goto (tgt := 64) hx hb dX1_tellWalked_53 (by decide) ?_
        refine lv_istore_n (lv' := [(3, .int (0)), (2, .int (nI (b))), (1, .int (nI (r))), (0, .ref (ad 1))]) hx hb dX1_tellWalked_64 rfl hl (by decide) rfl (fun ls hl => ?_)
        refine lv_aload_n hx hb dX1_tellWalked_65 rfl (lv_at hl 3 rfl) ?_
        refine lv_iload_n hx hb dX1_tellWalked_66 rfl (lv_at hl 2 rfl) ?_
        refine lv_iconst (v := 4) hx hb dX1_tellWalked_67 (by decide) ?_
        refine lv_iload_n hx hb dX1_tellWalked_68 rfl (lv_at hl 1 rfl) ?_
        refine w_iaddN (a := 4) (b := b) hx hb rfl rfl dX1_tellWalked_69 ?_
        refine lv_iload_n hx hb dX1_tellWalked_70 rfl (lv_at hl 0 rfl) ?_
        refine w_callv (va_runV (As := [.int (nI (r)), .int (nI (4 + b)), .int (0)]) (rest := []) ⟨hx, hb, hml, hown, hts⟩ (c_X1_tellNeighbour l nW D cA ad hi hNW (twIn I r (twOut I r) b) J X H.size r (4 + b) 0 (cntR I r b) (by omega) (by omega) ⟨Nat.lt_of_le_of_lt (cntR_le I r b) (by omega), u2⟩) (cwV 3 hts gX1_tellWalked_X1_tellNeighbour rfl rfl rfl (by decide +kernel) ⟨Nat.le_of_ble_eq_true rfl, Nat.le_of_ble_eq_true rfl⟩) (w_preV hK hP 1 (by omega) ⟨rfl, rfl⟩ rfl) rfl rfl hl.1 rfl (lv_room (Nat.le_of_ble_eq_true rfl)) dX1_tellWalked_71 ⟨Nat.le_of_ble_eq_true rfl, Nat.le_of_ble_eq_true rfl⟩) hS (fun H locs hP hS => ?_)
        refine lv_aload_n hx hb dX1_tellWalked_74 rfl (lv_at hl 3 rfl) ?_
        refine lv_iconst (v := 4) hx hb dX1_tellWalked_75 (by decide) ?_
        refine lv_iload_n hx hb dX1_tellWalked_76 rfl (lv_at hl 1 rfl) ?_
        refine w_iaddN (a := 4) (b := b) hx hb rfl rfl dX1_tellWalked_77 ?_
        refine lv_iload_n hx hb dX1_tellWalked_78 rfl (lv_at hl 2 rfl) ?_
        refine lv_iload_n hx hb dX1_tellWalked_79 rfl (lv_at hl 0 rfl) ?_
        refine w_callv (va_runV (As := [.int (nI (4 + b)), .int (nI (r)), .int (0)]) (rest := []) ⟨hx, hb, hml, hown, hts⟩ (c_X1_tellNeighbour l nW D cA ad hi hNW (tnI (twIn I r (twOut I r) b) r (4 + b) 0 (cntR I r b)) J X H.size (4 + b) r 0 (cntB I b r) (by omega) (by omega) ⟨Nat.lt_of_le_of_lt (cntB_le I b r) (by omega), (tnI_cn (by omega) (by omega)).trans ((u4 b (by omega)).trans (by rw [if_neg (Nat.lt_irrefl b)]))⟩) (cwV 3 hts gX1_tellWalked_X1_tellNeighbour rfl rfl rfl (by decide +kernel) ⟨Nat.le_of_ble_eq_true rfl, Nat.le_of_ble_eq_true rfl⟩) (w_preV hK hP 1 (by omega) ⟨rfl, rfl⟩ rfl) rfl rfl hl.1 rfl (lv_room (Nat.le_of_ble_eq_true rfl)) dX1_tellWalked_80 ⟨Nat.le_of_ble_eq_true rfl, Nat.le_of_ble_eq_true rfl⟩) hS (fun H locs hP hS => ?_)
        refine lv_iinc (v := nI (b + 1)) (lv' := [(2, .int (nI (b + 1))), (3, .int (0)), (1, .int (nI (r))), (0, .ref (ad 1))]) hx hb dX1_tellWalked_83 hl (k := 1) rfl (wn_inc rfl) (by decide) rfl (fun ls hl => ?_)
        refine lv_goto (tgt := 37) hx hb dX1_tellWalked_86 (by decide) ?_
        exact ih (b + 1) (by omega)  H locs (w_cong (I1 := (twIn I r (twOut I r) (b + 1))) (J1 := J) (X1 := X) hP ⟨(by subst_vars; first | rfl | (show _ = twStep I r b _; unfold twStep; first | (rw [hw]; done) | rw [hw, u1 (3 + r) (by omega)])), rfl, rfl⟩) hS ls (lv_cong (l := [(2, .int (nI (b + 1))), (1, .int (nI (r))), (0, .ref (ad 1))]) (l' := [(2, .int (nI ((b + 1)))), (1, .int (nI (r))), (0, .ref (ad 1))]) (lv_sub hl [0, 2, 3] rfl) (by subst_vars; first | rfl | (show _ = twStep I r b _; unfold twStep; first | (rw [hw]; done) | rw [hw, u1 (3 + r) (by omega)])))

set_option maxHeartbeats 4000000 in
set_option maxRecDepth 100000 in
theorem lp_X1_tellWalked_B {p : Program} {l : Launch} {e : Env} {s : State} {m : MethodId} {args : Array Value} {below : List Frame} {meth : Method} {c : Code} {Q : State → Prop} {nW : Nat} {D : va_G} {cA : Nat → ClassId} {ad : Nat → Nat} (hi : inj nW ad) (hNW : 102 ≤ nW) (hx : p.tables.exec = Jvm.exec) (hb : c.code = cX1_tellWalked) (hml : c.maxLocals = 4) (hown : s.vm.findClass RX1 = some m.cls) (hts : ∀ w ∈ wsX1_tellWalked, w.before args s = true) (hK : WK D cA s) (I : SI) (J : SJ) (X : SX)  (kx :  ∀ (H : Heap) (locs : List Loc), WP nW D cA ad (twOut I 4) J X H → va_S (fr nW ad s.heap.size) s.heap H locs → ∀ (ls : Array Slot), lv_has ls 4 [(0, .ref (ad 1))] → W p l e (headSpec wsX1_tellWalked ({ frames := 1, cells := 0, slots := 0, locals := 24 })).room s m args below meth c H locs 0 0 Q (F0 m 95 ls [])) : ∀ (t r : Nat), r + t = 4 →  ∀ (H : Heap) (locs : List Loc), WP nW D cA ad (twOut I r) J X H → va_S (fr nW ad s.heap.size) s.heap H locs → ∀ (ls : Array Slot), lv_has ls 4 [(1, .int (nI (r))), (0, .ref (ad 1))] → W p l e (headSpec wsX1_tellWalked ({ frames := 1, cells := 0, slots := 0, locals := 24 })).room s m args below meth c H locs 0 0 Q (F0 m 30 ls []) := by
  have hA : ∀ k, k < nW → fr nW ad s.heap.size (ad k) := fr_ad
  intro t
  induction t with
  | zero =>
    intro r hj  H locs hP hS ls hl
    obtain rfl : 4 = r := by omega
    refine lv_iload_n hx hb dX1_tellWalked_30 rfl (lv_at hl 0 rfl) ?_
    refine lv_iconst (v := 4) hx hb dX1_tellWalked_31 (by decide) ?_
    refine lv_icmp_ge (tgt := 95) hx hb dX1_tellWalked_32 (by decide) (fun cc => ?_) (fun cc => ?_)
    · have qcc : 4 ≤ 4 := (wn_le (a := 4) (b := 4) rfl rfl (by omega) (by omega)).mp cc
      exact kx  H locs (w_cong (I1 := (twOut I 4)) (J1 := J) (X1 := X) hP ⟨(by subst_vars; rfl), rfl, rfl⟩) hS ls (lv_sub hl [1] rfl)
    · have qcc : ¬ 4 ≤ 4 := fun z => cc ((wn_le (a := 4) (b := 4) rfl rfl (by omega) (by omega)).mpr z)
      exact absurd qcc (by omega)
  | succ t ih =>
    intro r hj  H locs hP hS ls hl
    refine lv_iload_n hx hb dX1_tellWalked_30 rfl (lv_at hl 0 rfl) ?_
    refine lv_iconst (v := 4) hx hb dX1_tellWalked_31 (by decide) ?_
    refine lv_icmp_ge (tgt := 95) hx hb dX1_tellWalked_32 (by decide) (fun cc => ?_) (fun cc => ?_)
    · have qcc : 4 ≤ r := (wn_le (a := 4) (b := r) rfl rfl (by omega) (by omega)).mp cc
      exact absurd qcc (by omega)
    · have qcc : ¬ 4 ≤ r := fun z => cc ((wn_le (a := 4) (b := r) rfl rfl (by omega) (by omega)).mpr z)
      refine lv_iconst (v := 0) hx hb dX1_tellWalked_35 (by decide) ?_
      refine lv_istore_n (lv' := [(2, .int (0)), (1, .int (nI (r))), (0, .ref (ad 1))]) hx hb dX1_tellWalked_36 rfl hl (by decide) rfl (fun ls hl => ?_)
      refine lp_X1_tellWalked_C hi hNW hx hb hml hown hts hK I J X r (by omega) (fun  H locs hP hS ls hl => ?_) (5) (0) (by omega)  H locs (w_cong (I1 := (twIn I r (twOut I r) 0)) (J1 := J) (X1 := X) hP ⟨(by subst_vars; rfl), rfl, rfl⟩) hS ls (lv_cong (l := [(2, .int (0)), (1, .int (nI (r))), (0, .ref (ad 1))]) (l' := [(2, .int (nI (0))), (1, .int (nI (r))), (0, .ref (ad 1))]) (lv_sub hl [0, 1, 2] rfl) (by subst_vars; rfl))
      refine lv_iinc (v := nI (r + 1)) (lv' := [(1, .int (nI (r + 1))), (0, .ref (ad 1))]) hx hb dX1_tellWalked_89 hl (k := 0) rfl (wn_inc rfl) (by decide) rfl (fun ls hl => ?_)
      refine lv_goto (tgt := 30) hx hb dX1_tellWalked_92 (by decide) ?_
      exact ih (r + 1) (by omega)  H locs (w_cong (I1 := (twOut I (r + 1))) (J1 := J) (X1 := X) hP ⟨(by subst_vars; rfl), rfl, rfl⟩) hS ls (lv_cong (l := [(1, .int (nI (r + 1))), (0, .ref (ad 1))]) (l' := [(1, .int (nI ((r + 1)))), (0, .ref (ad 1))]) (lv_sub hl [0, 1] rfl) (by subst_vars; rfl))

set_option maxHeartbeats 4000000 in
set_option maxRecDepth 100000 in
/-- X1_tellWalked -/
theorem c_X1_tellWalked (l : Launch) (nW : Nat) (D : va_G) (cA : Nat → ClassId) (ad : Nat → Nat) (hi : inj nW ad) (hNW : 102 ≤ nW) (I : SI) (J : SJ) (X : SX) (sz : Nat)  : Met l yX1_tellWalked wsX1_tellWalked ({ frames := 1, cells := 0, slots := 0, locals := 24 }) (va_Pc [.ref (ad 1)] (wPre nW D cA ad I J X sz)) (qV nW D cA ad sz (tellI I) J X) 0 0 (fr nW ad sz) := by
  refine Met.ofW (cc := cX1_tellWalked) (maxL := 4) (ret := none) (by decide) rfl ?_
  intro p e s m args below meth c s₁ B hml hv
  obtain ⟨rfl, rfl, hP, hK⟩ := hv
  have hx := B.exec
  have hb := B.bytes
  have hr := B.returns
  have hts := atoms_spec (ws := wsX1_tellWalked) B.pre
  have hown : s.vm.findClass RX1 = some m.cls := findClass_of_methodNamed B.named
  have hlocks := B.notSynchronized
  have hS : va_S (fr nW ad s.heap.size) s.heap s.heap [] := va_S.rf
  have hA : ∀ k, k < nW → fr nW ad s.heap.size (ad k) := fr_ad
  have hl := lv_entry ([.ref (ad 1)]) (n := 4) (Nat.le_of_ble_eq_true rfl)
  rw [lg_entry_eq]
  generalize (lg_sl ([.ref (ad 1)]) ++ List.replicate (4 - (lg_sl ([.ref (ad 1)])).length) Slot.unset).toArray = ls at hl ⊢
  have hl : lv_has ls 4 [(0, .ref (ad 1))] := hl
  have hS0 := hS
  suffices K : ∀ (H : Heap) (locs : List Loc), WP nW D cA ad I J X H → va_S (fr nW ad s.heap.size) s.heap H locs → W p l e (headSpec wsX1_tellWalked ({ frames := 1, cells := 0, slots := 0, locals := 24 })).room s m ([.ref (ad 1)] : List Value).toArray below meth c H locs 0 0 (MQ below (qV nW D cA ad s.heap.size (tellI I) J X) ([.ref (ad 1)] : List Value).toArray s 0 0 (fr nW ad s.heap.size)) (F0 m 0 ls []) from K _ _ hP hS
  clear hP hS hS0
  intro H locs hP hS
  refine lv_iconst (v := 0) hx hb dX1_tellWalked_0 (by decide) ?_
  refine lv_istore_n (lv' := [(1, .int (0)), (0, .ref (ad 1))]) hx hb dX1_tellWalked_1 rfl hl (by decide) rfl (fun ls hl => ?_)
  refine lp_X1_tellWalked_A hi hNW hx hb hml hown hts hK I J X  (fun  H locs hP hS ls hl => ?_) (9) (0) (by omega)  H locs (w_cong (I1 := (tw0 I 0)) (J1 := J) (X1 := X) hP ⟨(by subst_vars; rfl), rfl, rfl⟩) hS ls (lv_cong (l := [(1, .int (0)), (0, .ref (ad 1))]) (l' := [(1, .int (nI (0))), (0, .ref (ad 1))]) (lv_sub hl [0, 1] rfl) (by subst_vars; rfl))
  refine lv_iconst (v := 0) hx hb dX1_tellWalked_28 (by decide) ?_
  refine lv_istore_n (lv' := [(1, .int (0)), (0, .ref (ad 1))]) hx hb dX1_tellWalked_29 rfl hl (by decide) rfl (fun ls hl => ?_)
  refine lp_X1_tellWalked_B hi hNW hx hb hml hown hts hK I J X  (fun  H locs hP hS ls hl => ?_) (4) (0) (by omega)  H locs (w_cong (I1 := (twOut I 0)) (J1 := J) (X1 := X) hP ⟨(by subst_vars; rfl), rfl, rfl⟩) hS ls (lv_cong (l := [(1, .int (0)), (0, .ref (ad 1))]) (l' := [(1, .int (nI (0))), (0, .ref (ad 1))]) (lv_sub hl [0, 1] rfl) (by subst_vars; rfl))
  exact w_vret hx hb hr hlocks hK hP hS ⟨by subst_vars; rfl, by subst_vars; rfl, by subst_vars; rfl⟩ dX1_tellWalked_95

theorem inX1_setLoan_X1 : ∀ w ∈ wsX10, w ∈ wsX1_setLoan := by decide +kernel
set_option maxHeartbeats 4000000 in
set_option maxRecDepth 100000 in
/-- X1_setLoan -/
theorem c_X1_setLoan (l : Launch) (nW : Nat) (D : va_G) (cA : Nat → ClassId) (ad : Nat → Nat) (hi : inj nW ad) (hNW : 102 ≤ nW) (I : SI) (J : SJ) (X : SX) (sz : Nat) (r b : Nat) (x : Int32) (hr4 : r < 4) (hb5 : b < 5) : Met l yX1_setLoan wsX1_setLoan ({ frames := 2, cells := 0, slots := 0, locals := 47 }) (va_Pc [.ref (ad 1), .int (nI (r)), .int (nI (b)), .int (x)] (wPre nW D cA ad I J X sz)) (qV nW D cA ad sz (tellI (st2 I (3 + r) b x)) J X) 0 0 (fr nW ad sz) := by
  refine Met.ofW (cc := cX1_setLoan) (maxL := 4) (ret := none) (by decide) rfl ?_
  intro p e s m args below meth c s₁ B hml hv
  obtain ⟨rfl, rfl, hP, hK⟩ := hv
  have hx := B.exec
  have hb := B.bytes
  have hr := B.returns
  have hts := atoms_spec (ws := wsX1_setLoan) B.pre
  have hown : s.vm.findClass RX1 = some m.cls := findClass_of_methodNamed B.named
  have hlocks := B.notSynchronized
  have hS : va_S (fr nW ad s.heap.size) s.heap s.heap [] := va_S.rf
  have hA : ∀ k, k < nW → fr nW ad s.heap.size (ad k) := fr_ad
  have hl := lv_entry ([.ref (ad 1), .int (nI (r)), .int (nI (b)), .int (x)]) (n := 4) (Nat.le_of_ble_eq_true rfl)
  rw [lg_entry_eq]
  generalize (lg_sl ([.ref (ad 1), .int (nI (r)), .int (nI (b)), .int (x)]) ++ List.replicate (4 - (lg_sl ([.ref (ad 1), .int (nI (r)), .int (nI (b)), .int (x)])).length) Slot.unset).toArray = ls at hl ⊢
  have hl : lv_has ls 4 [(0, .ref (ad 1)), (1, .int (nI (r))), (2, .int (nI (b))), (3, .int (x))] := hl
  have hS0 := hS
  suffices K : ∀ (H : Heap) (locs : List Loc), WP nW D cA ad I J X H → va_S (fr nW ad s.heap.size) s.heap H locs → W p l e (headSpec wsX1_setLoan ({ frames := 2, cells := 0, slots := 0, locals := 47 })).room s m ([.ref (ad 1), .int (nI (r)), .int (nI (b)), .int (x)] : List Value).toArray below meth c H locs 0 0 (MQ below (qV nW D cA ad s.heap.size (tellI (st2 I (3 + r) b x)) J X) ([.ref (ad 1), .int (nI (r)), .int (nI (b)), .int (x)] : List Value).toArray s 0 0 (fr nW ad s.heap.size)) (F0 m 0 ls []) from K _ _ hP hS
  clear hP hS hS0
  intro H locs hP hS
  refine lv_aload_n hx hb dX1_setLoan_0 rfl (lv_at hl 0 rfl) ?_
  refine w_get (C := RX1) (T := TX1) (N := 6) (v := .ref (ad 2)) (index := 11) hx hb hts inX1_setLoan_X1 hown hK hP 1 0 ⟨rfl, rfl, by decide⟩ (by omega) rfl (List.mem_of_getElem? (i := 1) rfl) (fun _ h9 => h9) dX1_setLoan_1 ?_
  refine lv_iload_n hx hb dX1_setLoan_4 rfl (lv_at hl 1 rfl) ?_
  refine w_aald hx hb hK hP 2 (r) 3 4 ⟨rfl, (by show r < 4; omega), rfl, rfl, by decide, by decide⟩ (by omega) rfl dX1_setLoan_5 ?_
  refine lv_iload_n hx hb dX1_setLoan_6 rfl (lv_at hl 2 rfl) ?_
  refine lv_iload_n hx hb dX1_setLoan_7 rfl (lv_at hl 3 rfl) ?_
  refine w_iast (v := x) hx hb hK hP hi hA hS (3 + r) (b) (k_loanR (by omega) (by omega)) (by omega) rfl dX1_setLoan_8 (fun H locs hP hS => ?_)
  obtain ⟨I_1, eI_1⟩ : ∃ y, y = st2 I (3 + r) (b) (x) := ⟨_, rfl⟩
  have hP : WP nW D cA ad I_1 J X H := by rw [eI_1]; exact hP
  refine lv_aload_n hx hb dX1_setLoan_9 rfl (lv_at hl 0 rfl) ?_
  refine w_callv (va_runV (As := []) (rest := []) ⟨hx, hb, hml, hown, hts⟩ (c_X1_tellWalked l nW D cA ad hi hNW I_1 J X H.size) (cwV 0 hts gX1_setLoan_X1_tellWalked rfl rfl rfl (by decide +kernel) ⟨Nat.le_of_ble_eq_true rfl, Nat.le_of_ble_eq_true rfl⟩) (w_preV hK hP 1 (by omega) ⟨rfl, rfl⟩ rfl) rfl rfl hl.1 rfl (lv_room (Nat.le_of_ble_eq_true rfl)) dX1_setLoan_10 ⟨Nat.le_of_ble_eq_true rfl, Nat.le_of_ble_eq_true rfl⟩) hS (fun H locs hP hS => ?_)
  exact w_vret hx hb hr hlocks hK hP hS ⟨by subst_vars; rfl, by subst_vars; rfl, by subst_vars; rfl⟩ dX1_setLoan_13

theorem inX1_setBar_X1 : ∀ w ∈ wsX10, w ∈ wsX1_setBar := by decide +kernel
set_option maxHeartbeats 4000000 in
set_option maxRecDepth 100000 in
/-- X1_setBar -/
theorem c_X1_setBar (l : Launch) (nW : Nat) (D : va_G) (cA : Nat → ClassId) (ad : Nat → Nat) (hi : inj nW ad) (hNW : 102 ≤ nW) (I : SI) (J : SJ) (X : SX) (sz : Nat) (b : Nat) (x : Int32) (hb5 : b < 5) : Met l yX1_setBar wsX1_setBar ({ frames := 2, cells := 0, slots := 0, locals := 47 }) (va_Pc [.ref (ad 1), .int (nI (b)), .int (x)] (wPre nW D cA ad I J X sz)) (qV nW D cA ad sz (tellI (st2 I 7 b x)) J X) 0 0 (fr nW ad sz) := by
  refine Met.ofW (cc := cX1_setBar) (maxL := 3) (ret := none) (by decide) rfl ?_
  intro p e s m args below meth c s₁ B hml hv
  obtain ⟨rfl, rfl, hP, hK⟩ := hv
  have hx := B.exec
  have hb := B.bytes
  have hr := B.returns
  have hts := atoms_spec (ws := wsX1_setBar) B.pre
  have hown : s.vm.findClass RX1 = some m.cls := findClass_of_methodNamed B.named
  have hlocks := B.notSynchronized
  have hS : va_S (fr nW ad s.heap.size) s.heap s.heap [] := va_S.rf
  have hA : ∀ k, k < nW → fr nW ad s.heap.size (ad k) := fr_ad
  have hl := lv_entry ([.ref (ad 1), .int (nI (b)), .int (x)]) (n := 3) (Nat.le_of_ble_eq_true rfl)
  rw [lg_entry_eq]
  generalize (lg_sl ([.ref (ad 1), .int (nI (b)), .int (x)]) ++ List.replicate (3 - (lg_sl ([.ref (ad 1), .int (nI (b)), .int (x)])).length) Slot.unset).toArray = ls at hl ⊢
  have hl : lv_has ls 3 [(0, .ref (ad 1)), (1, .int (nI (b))), (2, .int (x))] := hl
  have hS0 := hS
  suffices K : ∀ (H : Heap) (locs : List Loc), WP nW D cA ad I J X H → va_S (fr nW ad s.heap.size) s.heap H locs → W p l e (headSpec wsX1_setBar ({ frames := 2, cells := 0, slots := 0, locals := 47 })).room s m ([.ref (ad 1), .int (nI (b)), .int (x)] : List Value).toArray below meth c H locs 0 0 (MQ below (qV nW D cA ad s.heap.size (tellI (st2 I 7 b x)) J X) ([.ref (ad 1), .int (nI (b)), .int (x)] : List Value).toArray s 0 0 (fr nW ad s.heap.size)) (F0 m 0 ls []) from K _ _ hP hS
  clear hP hS hS0
  intro H locs hP hS
  refine lv_aload_n hx hb dX1_setBar_0 rfl (lv_at hl 0 rfl) ?_
  refine w_get (C := RX1) (T := TX1) (N := 6) (v := .ref (ad 7)) (index := 16) hx hb hts inX1_setBar_X1 hown hK hP 1 1 ⟨rfl, rfl, by decide⟩ (by omega) rfl (List.mem_of_getElem? (i := 1) rfl) (fun _ h9 => h9) dX1_setBar_1 ?_
  refine lv_iload_n hx hb dX1_setBar_4 rfl (lv_at hl 1 rfl) ?_
  refine lv_iload_n hx hb dX1_setBar_5 rfl (lv_at hl 2 rfl) ?_
  refine w_iast (v := x) hx hb hK hP hi hA hS 7 (b) ⟨rfl, (by show b < 5; omega)⟩ (by omega) rfl dX1_setBar_6 (fun H locs hP hS => ?_)
  obtain ⟨I_1, eI_1⟩ : ∃ y, y = st2 I 7 (b) (x) := ⟨_, rfl⟩
  have hP : WP nW D cA ad I_1 J X H := by rw [eI_1]; exact hP
  refine lv_aload_n hx hb dX1_setBar_7 rfl (lv_at hl 0 rfl) ?_
  refine w_callv (va_runV (As := []) (rest := []) ⟨hx, hb, hml, hown, hts⟩ (c_X1_tellWalked l nW D cA ad hi hNW I_1 J X H.size) (cwV 0 hts gX1_setBar_X1_tellWalked rfl rfl rfl (by decide +kernel) ⟨Nat.le_of_ble_eq_true rfl, Nat.le_of_ble_eq_true rfl⟩) (w_preV hK hP 1 (by omega) ⟨rfl, rfl⟩ rfl) rfl rfl hl.1 rfl (lv_room (Nat.le_of_ble_eq_true rfl)) dX1_setBar_8 ⟨Nat.le_of_ble_eq_true rfl, Nat.le_of_ble_eq_true rfl⟩) hS (fun H locs hP hS => ?_)
  exact w_vret hx hb hr hlocks hK hP hS ⟨by subst_vars; rfl, by subst_vars; rfl, by subst_vars; rfl⟩ dX1_setBar_11

/-- loans fade, row by row; how many are left -/
def hvIn (r : Nat) (s : SI × Int32) : Nat → SI × Int32
  | 0 => s
  | b + 1 => (st2 (hvIn r s b).1 (3 + r) b ((hvIn r s b).1 (3 + r) b / 2), (hvIn r s b).2 + (if 0 < st2 (hvIn r s b).1 (3 + r) b ((hvIn r s b).1 (3 + r) b / 2) (3 + r) b then 1 else 0))
def hvOut (I : SI) : Nat → SI × Int32
  | 0 => (I, 0)
  | r + 1 => hvIn r (hvOut I r) 5

theorem inX1_halveLoans_X1 : ∀ w ∈ wsX10, w ∈ wsX1_halveLoans := by decide +kernel
set_option maxHeartbeats 4000000 in
set_option maxRecDepth 100000 in
theorem lp_X1_halveLoans_B {p : Program} {l : Launch} {e : Env} {s : State} {m : MethodId} {args : Array Value} {below : List Frame} {meth : Method} {c : Code} {Q : State → Prop} {nW : Nat} {D : va_G} {cA : Nat → ClassId} {ad : Nat → Nat} (hi : inj nW ad) (hNW : 102 ≤ nW) (hx : p.tables.exec = Jvm.exec) (hb : c.code = cX1_halveLoans) (hml : c.maxLocals = 4) (hown : s.vm.findClass RX1 = some m.cls) (hts : ∀ w ∈ wsX1_halveLoans, w.before args s = true) (hK : WK D cA s) (I : SI) (J : SJ) (X : SX) (r : Nat) (hr4 : r < 4) (kx :  ∀ (H : Heap) (locs : List Loc), WP nW D cA ad ((hvIn r (hvOut I r) 5).1) J X H → va_S (fr nW ad s.heap.size) s.heap H locs → ∀ (ls : Array Slot), lv_has ls 4 [(1, .int ((hvIn r (hvOut I r) 5).2)), (2, .int (nI (r))), (0, .ref (ad 1))] → W p l e (headSpec wsX1_halveLoans ({ frames := 2, cells := 0, slots := 0, locals := 47 })).room s m args below meth c H locs 0 0 Q (F0 m 53 ls [])) : ∀ (t b : Nat), b + t = 5 →  ∀ (H : Heap) (locs : List Loc), WP nW D cA ad ((hvIn r (hvOut I r) b).1) J X H → va_S (fr nW ad s.heap.size) s.heap H locs → ∀ (ls : Array Slot), lv_has ls 4 [(3, .int (nI (b))), (1, .int ((hvIn r (hvOut I r) b).2)), (2, .int (nI (r))), (0, .ref (ad 1))] → W p l e (headSpec wsX1_halveLoans ({ frames := 2, cells := 0, slots := 0, locals := 47 })).room s m args below meth c H locs 0 0 Q (F0 m 11 ls []) := by
  have hA : ∀ k, k < nW → fr nW ad s.heap.size (ad k) := fr_ad
  intro t
  induction t with
  | zero =>
    intro b hj  H locs hP hS ls hl
    obtain rfl : 5 = b := by omega
    refine lv_iload_n hx hb dX1_halveLoans_11 rfl (lv_at hl 0 rfl) ?_
    refine lv_iconst (v := 5) hx hb dX1_halveLoans_12 (by decide) ?_
    refine lv_icmp_ge (tgt := 53) hx hb dX1_halveLoans_13 (by decide) (fun cc => ?_) (fun cc => ?_)
    · have qcc : 5 ≤ 5 := (wn_le (a := 5) (b := 5) rfl rfl (by omega) (by omega)).mp cc
      exact kx  H locs (w_cong (I1 := ((hvIn r (hvOut I r) 5).1)) (J1 := J) (X1 := X) hP ⟨(by subst_vars; rfl), rfl, rfl⟩) hS ls (lv_sub hl [1, 2, 3] rfl)
    · have qcc : ¬ 5 ≤ 5 := fun z => cc ((wn_le (a := 5) (b := 5) rfl rfl (by omega) (by omega)).mpr z)
      exact absurd qcc (by omega)
  | succ t ih =>
    intro b hj  H locs hP hS ls hl
    refine lv_iload_n hx hb dX1_halveLoans_11 rfl (lv_at hl 0 rfl) ?_
    refine lv_iconst (v := 5) hx hb dX1_halveLoans_12 (by decide) ?_
    refine lv_icmp_ge (tgt := 53) hx hb dX1_halveLoans_13 (by decide) (fun cc => ?_) (fun cc => ?_)
    · have qcc : 5 ≤ b := (wn_le (a := 5) (b := b) rfl rfl (by omega) (by omega)).mp cc
      exact absurd qcc (by omega)
    · have qcc : ¬ 5 ≤ b := fun z => cc ((wn_le (a := 5) (b := b) rfl rfl (by omega) (by omega)).mpr z)
      refine lv_aload_n hx hb dX1_halveLoans_16 rfl (lv_at hl 3 rfl) ?_
      refine w_get (C := RX1) (T := TX1) (N := 6) (v := .ref (ad 2)) (index := 11) hx hb hts inX1_halveLoans_X1 hown hK hP 1 0 ⟨rfl, rfl, by decide⟩ (by omega) rfl (List.mem_of_getElem? (i := 1) rfl) (fun _ h9 => h9) dX1_halveLoans_17 ?_
      refine lv_iload_n hx hb dX1_halveLoans_20 rfl (lv_at hl 2 rfl) ?_
      refine w_aald hx hb hK hP 2 (r) 3 4 ⟨rfl, (by show r < 4; omega), rfl, rfl, by decide, by decide⟩ (by omega) rfl dX1_halveLoans_21 ?_
      refine lv_iload_n hx hb dX1_halveLoans_22 rfl (lv_at hl 0 rfl) ?_
      refine lv_dup2_11 hx hb dX1_halveLoans_23 rfl rfl ?_
      refine w_iald hx hb hK hP (3 + r) (b) (k_loanR (by omega) (by omega)) (by omega) rfl dX1_halveLoans_24 ?_
      refine lv_iconst (v := 2) hx hb dX1_halveLoans_25 (by decide) ?_
      refine lv_idiv hx hb dX1_halveLoans_26 (by decide) ?_
      refine w_iast (v := (((hvIn r (hvOut I r) b).1) (3 + r) (b)) / 2) hx hb hK hP hi hA hS (3 + r) (b) (k_loanR (by omega) (by omega)) (by omega) rfl dX1_halveLoans_27 (fun H locs hP hS => ?_)
      obtain ⟨I_1, eI_1⟩ : ∃ y, y = st2 ((hvIn r (hvOut I r) b).1) (3 + r) (b) ((((hvIn r (hvOut I r) b).1) (3 + r) (b)) / 2) := ⟨_, rfl⟩
      have hP : WP nW D cA ad I_1 J X H := by rw [eI_1]; exact hP
      refine lv_iload_n hx hb dX1_halveLoans_28 rfl (lv_at hl 1 rfl) ?_
      refine lv_aload_n hx hb dX1_halveLoans_29 rfl (lv_at hl 3 rfl) ?_
      refine w_get (C := RX1) (T := TX1) (N := 6) (v := .ref (ad 2)) (index := 11) hx hb hts inX1_halveLoans_X1 hown hK hP 1 0 ⟨rfl, rfl, by decide⟩ (by omega) rfl (List.mem_of_getElem? (i := 1) rfl) (fun _ h9 => h9) dX1_halveLoans_30 ?_
      refine lv_iload_n hx hb dX1_halveLoans_33 rfl (lv_at hl 2 rfl) ?_
      refine w_aald hx hb hK hP 2 (r) 3 4 ⟨rfl, (by show r < 4; omega), rfl, rfl, by decide, by decide⟩ (by omega) rfl dX1_halveLoans_34 ?_
      refine lv_iload_n hx hb dX1_halveLoans_35 rfl (lv_at hl 0 rfl) ?_
      refine w_iald hx hb hK hP (3 + r) (b) (k_loanR (by omega) (by omega)) (by omega) rfl dX1_halveLoans_36 ?_
      refine lv_if_le (tgt := 44) hx hb dX1_halveLoans_37 (by decide) (fun ch => ?_) (fun ch => ?_)
      · have hz := i32_nlt ch
        refine lv_iconst (v := 0) hx hb dX1_halveLoans_44 (by decide) ?_
        refine lv_iadd hx hb dX1_halveLoans_45 ?_
        refine lv_topi (fun lf elf => ?_)
        refine lv_istore_n (lv' := [(1, .int (lf)), (3, .int (nI (b))), (2, .int (nI (r))), (0, .ref (ad 1))]) hx hb dX1_halveLoans_46 rfl hl (by decide) rfl (fun ls hl => ?_)
        refine lv_iinc (v := nI (b + 1)) (lv' := [(3, .int (nI (b + 1))), (1, .int (lf)), (2, .int (nI (r))), (0, .ref (ad 1))]) hx hb dX1_halveLoans_47 hl (k := 1) rfl (wn_inc rfl) (by decide) rfl (fun ls hl => ?_)
        refine lv_goto (tgt := 11) hx hb dX1_halveLoans_50 (by decide) ?_
        exact ih (b + 1) (by omega)  H locs (w_cong (I1 := ((hvIn r (hvOut I r) (b + 1)).1)) (J1 := J) (X1 := X) hP ⟨(by subst_vars; first | rfl | (simp only [hvIn]; first | rw [if_neg hz] | rw [if_pos hz])), rfl, rfl⟩) hS ls (lv_cong (l := [(3, .int (nI (b + 1))), (1, .int (lf)), (2, .int (nI (r))), (0, .ref (ad 1))]) (l' := [(3, .int (nI ((b + 1)))), (1, .int ((hvIn r (hvOut I r) (b + 1)).2)), (2, .int (nI (r))), (0, .ref (ad 1))]) (lv_sub hl [0, 1, 2, 3] rfl) (by subst_vars; first | rfl | (simp only [hvIn]; first | rw [if_neg hz] | rw [if_pos hz])))
      · have hz := i32_lt ch
        refine lv_iconst (v := 1) hx hb dX1_halveLoans_40 (by decide) ?_
        refine lv_goto (tgt := 45) hx hb dX1_halveLoans_41 (by decide) ?_
        refine lv_iadd hx hb dX1_halveLoans_45 ?_
        refine lv_topi (fun lf elf => ?_)
        refine lv_istore_n (lv' := [(1, .int (lf)), (3, .int (nI (b))), (2, .int (nI (r))), (0, .ref (ad 1))]) hx hb dX1_halveLoans_46 rfl hl (by decide) rfl (fun ls hl => ?_)
        refine lv_iinc (v := nI (b + 1)) (lv' := [(3, .int (nI (b + 1))), (1, .int (lf)), (2, .int (nI (r))), (0, .ref (ad 1))]) hx hb dX1_halveLoans_47 hl (k := 1) rfl (wn_inc rfl) (by decide) rfl (fun ls hl => ?_)
        refine lv_goto (tgt := 11) hx hb dX1_halveLoans_50 (by decide) ?_
        exact ih (b + 1) (by omega)  H locs (w_cong (I1 := ((hvIn r (hvOut I r) (b + 1)).1)) (J1 := J) (X1 := X) hP ⟨(by subst_vars; first | rfl | (simp only [hvIn]; first | rw [if_neg hz] | rw [if_pos hz])), rfl, rfl⟩) hS ls (lv_cong (l := [(3, .int (nI (b + 1))), (1, .int (lf)), (2, .int (nI (r))), (0, .ref (ad 1))]) (l' := [(3, .int (nI ((b + 1)))), (1, .int ((hvIn r (hvOut I r) (b + 1)).2)), (2, .int (nI (r))), (0, .ref (ad 1))]) (lv_sub hl [0, 1, 2, 3] rfl) (by subst_vars; first | rfl | (simp only [hvIn]; first | rw [if_neg hz] | rw [if_pos hz])))

set_option maxHeartbeats 4000000 in
set_option maxRecDepth 100000 in
theorem lp_X1_halveLoans_A {p : Program} {l : Launch} {e : Env} {s : State} {m : MethodId} {args : Array Value} {below : List Frame} {meth : Method} {c : Code} {Q : State → Prop} {nW : Nat} {D : va_G} {cA : Nat → ClassId} {ad : Nat → Nat} (hi : inj nW ad) (hNW : 102 ≤ nW) (hx : p.tables.exec = Jvm.exec) (hb : c.code = cX1_halveLoans) (hml : c.maxLocals = 4) (hown : s.vm.findClass RX1 = some m.cls) (hts : ∀ w ∈ wsX1_halveLoans, w.before args s = true) (hK : WK D cA s) (I : SI) (J : SJ) (X : SX)  (kx :  ∀ (H : Heap) (locs : List Loc), WP nW D cA ad ((hvOut I 4).1) J X H → va_S (fr nW ad s.heap.size) s.heap H locs → ∀ (ls : Array Slot), lv_has ls 4 [(1, .int ((hvOut I 4).2)), (0, .ref (ad 1))] → W p l e (headSpec wsX1_halveLoans ({ frames := 2, cells := 0, slots := 0, locals := 47 })).room s m args below meth c H locs 0 0 Q (F0 m 59 ls [])) : ∀ (t r : Nat), r + t = 4 →  ∀ (H : Heap) (locs : List Loc), WP nW D cA ad ((hvOut I r).1) J X H → va_S (fr nW ad s.heap.size) s.heap H locs → ∀ (ls : Array Slot), lv_has ls 4 [(2, .int (nI (r))), (1, .int ((hvOut I r).2)), (0, .ref (ad 1))] → W p l e (headSpec wsX1_halveLoans ({ frames := 2, cells := 0, slots := 0, locals := 47 })).room s m args below meth c H locs 0 0 Q (F0 m 4 ls []) := by
  have hA : ∀ k, k < nW → fr nW ad s.heap.size (ad k) := fr_ad
  intro t
  induction t with
  | zero =>
    intro r hj  H locs hP hS ls hl
    obtain rfl : 4 = r := by omega
    refine lv_iload_n hx hb dX1_halveLoans_4 rfl (lv_at hl 0 rfl) ?_
    refine lv_iconst (v := 4) hx hb dX1_halveLoans_5 (by decide) ?_
    refine lv_icmp_ge (tgt := 59) hx hb dX1_halveLoans_6 (by decide) (fun cc => ?_) (fun cc => ?_)
    · have qcc : 4 ≤ 4 := (wn_le (a := 4) (b := 4) rfl rfl (by omega) (by omega)).mp cc
      exact kx  H locs (w_cong (I1 := ((hvOut I 4).1)) (J1 := J) (X1 := X) hP ⟨(by subst_vars; rfl), rfl, rfl⟩) hS ls (lv_sub hl [1, 2] rfl)
    · have qcc : ¬ 4 ≤ 4 := fun z => cc ((wn_le (a := 4) (b := 4) rfl rfl (by omega) (by omega)).mpr z)
      exact absurd qcc (by omega)
  | succ t ih =>
    intro r hj  H locs hP hS ls hl
    refine lv_iload_n hx hb dX1_halveLoans_4 rfl (lv_at hl 0 rfl) ?_
    refine lv_iconst (v := 4) hx hb dX1_halveLoans_5 (by decide) ?_
    refine lv_icmp_ge (tgt := 59) hx hb dX1_halveLoans_6 (by decide) (fun cc => ?_) (fun cc => ?_)
    · have qcc : 4 ≤ r := (wn_le (a := 4) (b := r) rfl rfl (by omega) (by omega)).mp cc
      exact absurd qcc (by omega)
    · have qcc : ¬ 4 ≤ r := fun z => cc ((wn_le (a := 4) (b := r) rfl rfl (by omega) (by omega)).mpr z)
      refine lv_iconst (v := 0) hx hb dX1_halveLoans_9 (by decide) ?_
      refine lv_istore_n (lv' := [(3, .int (0)), (2, .int (nI (r))), (1, .int ((hvOut I r).2)), (0, .ref (ad 1))]) hx hb dX1_halveLoans_10 rfl hl (by decide) rfl (fun ls hl => ?_)
      refine lp_X1_halveLoans_B hi hNW hx hb hml hown hts hK I J X r (by omega) (fun  H locs hP hS ls hl => ?_) (5) (0) (by omega)  H locs (w_cong (I1 := ((hvIn r (hvOut I r) 0).1)) (J1 := J) (X1 := X) hP ⟨(by subst_vars; rfl), rfl, rfl⟩) hS ls (lv_cong (l := [(3, .int (0)), (1, .int ((hvOut I r).2)), (2, .int (nI (r))), (0, .ref (ad 1))]) (l' := [(3, .int (nI (0))), (1, .int ((hvIn r (hvOut I r) 0).2)), (2, .int (nI (r))), (0, .ref (ad 1))]) (lv_sub hl [0, 2, 1, 3] rfl) (by subst_vars; rfl))
      refine lv_iinc (v := nI (r + 1)) (lv' := [(2, .int (nI (r + 1))), (1, .int ((hvIn r (hvOut I r) 5).2)), (0, .ref (ad 1))]) hx hb dX1_halveLoans_53 hl (k := 1) rfl (wn_inc rfl) (by decide) rfl (fun ls hl => ?_)
      refine lv_goto (tgt := 4) hx hb dX1_halveLoans_56 (by decide) ?_
      exact ih (r + 1) (by omega)  H locs (w_cong (I1 := ((hvOut I (r + 1)).1)) (J1 := J) (X1 := X) hP ⟨(by subst_vars; rfl), rfl, rfl⟩) hS ls (lv_cong (l := [(2, .int (nI (r + 1))), (1, .int ((hvIn r (hvOut I r) 5).2)), (0, .ref (ad 1))]) (l' := [(2, .int (nI ((r + 1)))), (1, .int ((hvOut I (r + 1)).2)), (0, .ref (ad 1))]) (lv_sub hl [0, 1, 2] rfl) (by subst_vars; rfl))

set_option maxHeartbeats 4000000 in
set_option maxRecDepth 100000 in
/-- X1_halveLoans -/
theorem c_X1_halveLoans (l : Launch) (nW : Nat) (D : va_G) (cA : Nat → ClassId) (ad : Nat → Nat) (hi : inj nW ad) (hNW : 102 ≤ nW) (I : SI) (J : SJ) (X : SX) (sz : Nat)  : Met l yX1_halveLoans wsX1_halveLoans ({ frames := 2, cells := 0, slots := 0, locals := 47 }) (va_Pc [.ref (ad 1)] (wPre nW D cA ad I J X sz)) (qI nW D cA ad sz ((hvOut I 4).2) (tellI (hvOut I 4).1) J X) 0 0 (fr nW ad sz) := by
  refine Met.ofW (cc := cX1_halveLoans) (maxL := 4) (ret := (some .int)) (by decide) rfl ?_
  intro p e s m args below meth c s₁ B hml hv
  obtain ⟨rfl, rfl, hP, hK⟩ := hv
  have hx := B.exec
  have hb := B.bytes
  have hr := B.returns
  have hts := atoms_spec (ws := wsX1_halveLoans) B.pre
  have hown : s.vm.findClass RX1 = some m.cls := findClass_of_methodNamed B.named
  have hlocks := B.notSynchronized
  have hS : va_S (fr nW ad s.heap.size) s.heap s.heap [] := va_S.rf
  have hA : ∀ k, k < nW → fr nW ad s.heap.size (ad k) := fr_ad
  have hl := lv_entry ([.ref (ad 1)]) (n := 4) (Nat.le_of_ble_eq_true rfl)
  rw [lg_entry_eq]
  generalize (lg_sl ([.ref (ad 1)]) ++ List.replicate (4 - (lg_sl ([.ref (ad 1)])).length) Slot.unset).toArray = ls at hl ⊢
  have hl : lv_has ls 4 [(0, .ref (ad 1))] := hl
  have hS0 := hS
  suffices K : ∀ (H : Heap) (locs : List Loc), WP nW D cA ad I J X H → va_S (fr nW ad s.heap.size) s.heap H locs → W p l e (headSpec wsX1_halveLoans ({ frames := 2, cells := 0, slots := 0, locals := 47 })).room s m ([.ref (ad 1)] : List Value).toArray below meth c H locs 0 0 (MQ below (qI nW D cA ad s.heap.size ((hvOut I 4).2) (tellI (hvOut I 4).1) J X) ([.ref (ad 1)] : List Value).toArray s 0 0 (fr nW ad s.heap.size)) (F0 m 0 ls []) from K _ _ hP hS
  clear hP hS hS0
  intro H locs hP hS
  refine lv_iconst (v := 0) hx hb dX1_halveLoans_0 (by decide) ?_
  refine lv_istore_n (lv' := [(1, .int (0)), (0, .ref (ad 1))]) hx hb dX1_halveLoans_1 rfl hl (by decide) rfl (fun ls hl => ?_)
  refine lv_iconst (v := 0) hx hb dX1_halveLoans_2 (by decide) ?_
  refine lv_istore_n (lv' := [(2, .int (0)), (1, .int (0)), (0, .ref (ad 1))]) hx hb dX1_halveLoans_3 rfl hl (by decide) rfl (fun ls hl => ?_)
  refine lp_X1_halveLoans_A hi hNW hx hb hml hown hts hK I J X  (fun  H locs hP hS ls hl => ?_) (4) (0) (by omega)  H locs (w_cong (I1 := ((hvOut I 0).1)) (J1 := J) (X1 := X) hP ⟨(by subst_vars; rfl), rfl, rfl⟩) hS ls (lv_cong (l := [(2, .int (0)), (1, .int (0)), (0, .ref (ad 1))]) (l' := [(2, .int (nI (0))), (1, .int ((hvOut I 0).2)), (0, .ref (ad 1))]) (lv_sub hl [0, 1, 2] rfl) (by subst_vars; rfl))
  refine lv_aload_n hx hb dX1_halveLoans_59 rfl (lv_at hl 1 rfl) ?_
  refine w_callv (va_runV (As := []) (rest := []) ⟨hx, hb, hml, hown, hts⟩ (c_X1_tellWalked l nW D cA ad hi hNW ((hvOut I 4).1) J X H.size) (cwV 0 hts gX1_halveLoans_X1_tellWalked rfl rfl rfl (by decide +kernel) ⟨Nat.le_of_ble_eq_true rfl, Nat.le_of_ble_eq_true rfl⟩) (w_preV hK hP 1 (by omega) ⟨rfl, rfl⟩ rfl) rfl rfl hl.1 rfl (lv_room (Nat.le_of_ble_eq_true rfl)) dX1_halveLoans_60 ⟨Nat.le_of_ble_eq_true rfl, Nat.le_of_ble_eq_true rfl⟩) hS (fun H locs hP hS => ?_)
  refine lv_iload_n hx hb dX1_halveLoans_63 rfl (lv_at hl 0 rfl) ?_
  exact w_iret hx hb hr hlocks hK hP hS ⟨by subst_vars; rfl, by subst_vars; rfl, by subst_vars; rfl, by subst_vars; rfl⟩ dX1_halveLoans_64
