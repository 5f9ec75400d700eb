/-! the law's small methods -/
def XA (ad K V : Nat → Nat) (tO tT sz : Nat) (U : State) : Prop := XS 102 ad sz U ∧ XL 102 ad K V tO tT sz U ∧ va_Nc eA eI U ∧ va_Nc eS eI U ∧ va_Nc eS eA U
theorem XA.go {ad K V : Nat → Nat} {tO tT : Nat} {s U : State} {H : Heap} {locs : List Loc} (h : XA ad K V tO tT s.heap.size s) (hS : va_S (fr 102 ad s.heap.size) s.heap H locs) (hU : U.heap = H) (hW : s.WarmedH U.vm) : XA ad K V tO tT H.size U := ⟨h.1.go hS hU hW, h.2.1.go hS hU hW, va_Nc.moved hW.alike h.2.2.1, va_Nc.moved hW.alike h.2.2.2.1, va_Nc.moved hW.alike h.2.2.2.2⟩
def wPreA (D : va_G) (cA : Nat → ClassId) (ad K V : Nat → Nat) (tO tT : Nat) (I : SI) (J : SJ) (X : SX) (sz : Nat) : State → Prop := fun U => wPre 102 D cA ad I J X sz U ∧ XA ad K V tO tT sz U
theorem wPreA_blind {D : va_G} {cA : Nat → ClassId} {ad K V : Nat → Nat} {tO tT : Nat} {I : SI} {J : SJ} {X : SX} {sz : Nat} {As : List Value} : FrameBlind (va_Pc As (wPreA D cA ad K V tO tT I J X sz)) := fun a U g mk q => ⟨q.1, ⟨q.2.1.1, q.2.1.2.1, va_K.moved (u := U) (U := U.calling g mk a) (Vm.Alike.refl U.vm) q.2.1.2.2⟩, ⟨q.2.2.1.1.moved (U := U.calling g mk a) (Vm.Alike.refl U.vm), q.2.2.1.2.1.moved (U := U.calling g mk a) (Vm.Alike.refl U.vm), q.2.2.1.2.2.same (U := U.calling g mk a) rfl⟩, q.2.2.2.1.same (U := U.calling g mk a) rfl rfl, va_Nc.moved (U := U.calling g mk a) (Vm.Alike.refl U.vm) q.2.2.2.2.1, va_Nc.moved (U := U.calling g mk a) (Vm.Alike.refl U.vm) q.2.2.2.2.2.1, va_Nc.moved (U := U.calling g mk a) (Vm.Alike.refl U.vm) q.2.2.2.2.2.2⟩
theorem w_preSA {s : State} {H : Heap} {locs : List Loc} {D : va_G} {cA : Nat → ClassId} {ad K V : Nat → Nat} {tO tT : Nat} {I : SI} {J : SJ} {X : SX} {As : List Value} (hK : WK D cA s) (hP : WP 102 D cA ad I J X H) (hX : XA ad K V tO tT s.heap.size s) (hS : va_S (fr 102 ad s.heap.size) s.heap H locs) : PreS s H (va_Pc As (wPreA D cA ad K V tO tT I J X H.size)) As := ⟨wPreA_blind, fun U hU hW => ⟨rfl, ⟨by rw [hU], by rw [hU]; exact hP, va_K.moved hW.alike hK⟩, hX.go hS hU hW⟩⟩
/-- before a call that is given the script -/
def wPreC (D : va_G) (cA : Nat → ClassId) (ad : Nat → Nat) (I : SI) (J : SJ) (X : SX) (b L : Nat) (xs : Nat → Int32) (sz : Nat) : State → Prop := fun U => wPre 102 D cA ad I J X sz U ∧ va_X b L xs U U.heap
theorem w_preSC {s : State} {H : Heap} {locs : List Loc} {D : va_G} {cA : Nat → ClassId} {ad : Nat → Nat} {I : SI} {J : SJ} {X : SX} {As : List Value} {b L : Nat} {xs : Nat → Int32} (hK : WK D cA s) (hP : WP 102 D cA ad I J X H) (hX : va_X b L xs s s.heap) (hbl : b < s.heap.size) (hbA : ¬ fr 102 ad s.heap.size b) (hS : va_S (fr 102 ad s.heap.size) s.heap H locs) : PreS s H (va_Pc As (wPreC D cA ad I J X b L xs H.size)) As := ⟨fun a U g mk q => ⟨q.1, ⟨q.2.1.1, q.2.1.2.1, va_K.moved (u := U) (U := U.calling g mk a) (Vm.Alike.refl U.vm) q.2.1.2.2⟩, va_X.moved (u := U) (U := U.calling g mk a) (Vm.Alike.refl U.vm) q.2.2⟩, fun U hU hW => ⟨rfl, ⟨by rw [hU], by rw [hU]; exact hP, va_K.moved hW.alike hK⟩, by rw [hU]; exact (va_X.moved hW.alike hX).kept (hS.2.1 b hbl hbA)⟩⟩
/-- before a call that is given two arrays -/
def wPreT (D : va_G) (cA : Nat → ClassId) (ad : Nat → Nat) (I : SI) (J : SJ) (X : SX) (q1 q2 : Nat) (f : Nat → Int32) (sz : Nat) : State → Prop := fun U => wPre 102 D cA ad I J X sz U ∧ AT cA q1 f U.heap ∧ AT cA q2 f U.heap
theorem w_preST {s : State} {H : Heap} {D : va_G} {cA : Nat → ClassId} {ad : Nat → Nat} {I : SI} {J : SJ} {X : SX} {As : List Value} {q1 q2 : Nat} {f : Nat → Int32} (hK : WK D cA s) (hP : WP 102 D cA ad I J X H) (h1 : AT cA q1 f H) (h2 : AT cA q2 f H) : PreS s H (va_Pc As (wPreT D cA ad I J X q1 q2 f H.size)) As := ⟨fun a U g mk q => ⟨q.1, ⟨q.2.1.1, q.2.1.2.1, va_K.moved (u := U) (U := U.calling g mk a) (Vm.Alike.refl U.vm) q.2.1.2.2⟩, q.2.2⟩, fun U hU hW => ⟨rfl, ⟨by rw [hU], by rw [hU]; exact hP, va_K.moved hW.alike hK⟩, by rw [hU]; exact h1, by rw [hU]; exact h2⟩⟩

set_option maxHeartbeats 4000000 in
set_option maxRecDepth 100000 in
/-- L_low -/
theorem c_L_low (l : Launch) (nW : Nat) (D : va_G) (cA : Nat → ClassId) (ad : Nat → Nat) (hi : inj nW ad) (hNW : 102 ≤ nW) (I : SI) (J : SJ) (X : SX) (sz : Nat) (v : Int32) (n : Nat) (hn : 0 < n ∧ n < 2147483648) : Met l yL_low wsL_low ({ frames := 0, cells := 0, slots := 0, locals := 0 }) (va_Pc [.int (v), .int (nI (n))] (wPre nW D cA ad I J X sz)) (qI nW D cA ad sz (nI (lowN v n)) I J X) 0 0 (fr nW ad sz) := by
  refine Met.ofW (cc := cL_low) (maxL := 2) (ret := (some .int)) (by decide) rfl ?_
  intro p e s m args below meth c s₁ B hml hv
  obtain ⟨rfl, rfl, hP, hK⟩ := hv
  have hx := B.exec
  have hb := B.bytes
  have hr := B.returns
  have hts := atoms_spec (ws := wsL_low) B.pre
  have hown : s.vm.findClass RL = some m.cls := findClass_of_methodNamed B.named
  have hlocks := B.notSynchronized
  have hS : va_S (fr nW ad s.heap.size) s.heap s.heap [] := va_S.rf
  have hA : ∀ k, k < nW → fr nW ad s.heap.size (ad k) := fr_ad
  have hl := lv_entry ([.int (v), .int (nI (n))]) (n := 2) (Nat.le_of_ble_eq_true rfl)
  rw [lg_entry_eq]
  generalize (lg_sl ([.int (v), .int (nI (n))]) ++ List.replicate (2 - (lg_sl ([.int (v), .int (nI (n))])).length) Slot.unset).toArray = ls at hl ⊢
  have hl : lv_has ls 2 [(0, .int (v)), (1, .int (nI (n)))] := hl
  have hS0 := hS
  suffices K : ∀ (H : Heap) (locs : List Loc), WP nW D cA ad I J X H → va_S (fr nW ad s.heap.size) s.heap H locs → W p l e (headSpec wsL_low ({ frames := 0, cells := 0, slots := 0, locals := 0 })).room s m ([.int (v), .int (nI (n))] : List Value).toArray below meth c H locs 0 0 (MQ below (qI nW D cA ad s.heap.size (nI (lowN v n)) I J X) ([.int (v), .int (nI (n))] : List Value).toArray s 0 0 (fr nW ad s.heap.size)) (F0 m 0 ls []) from K _ _ hP hS
  clear hP hS hS0
  intro H locs hP hS
  refine lv_iload_n hx hb dL_low_0 rfl (lv_at hl 0 rfl) ?_
  refine lv_ldc (v := 2147483647) hx hb hown (hts (.constant RL 8 (2147483647)) (List.mem_of_getElem? (i := 1) rfl)) dL_low_1 ?_
  refine lv_iand hx hb dL_low_3 ?_
  refine lv_iload_n hx hb dL_low_4 rfl (lv_at hl 1 rfl) ?_
  refine lv_irem hx hb dL_low_5 (nI_nz hn) ?_
  exact w_iret hx hb hr hlocks hK hP hS ⟨low_eq hn, by subst_vars; rfl, by subst_vars; rfl, by subst_vars; rfl⟩ dL_low_6

set_option maxHeartbeats 4000000 in
set_option maxRecDepth 100000 in
theorem c_L_cell (l : Launch) (D : va_G) (cA : Nat → ClassId) (ad : Nat → Nat) (I : SI) (J : SJ) (X : SX) (b L : Nat) (xs : Nat → Int32) (hL : L ≤ 260) (k : Nat) (hk : k < 1000) (sz : Nat) (hbl : b < sz) (hbA : ¬ fr 102 ad sz b) : Met l yL_cell wsL_cell ({ frames := 1, cells := 0, slots := 0, locals := 100 }) (va_Pc [.ref b, .int (nI k)] (wPreC D cA ad I J X b L xs sz)) (qI 102 D cA ad sz (cellV L xs k) I J X) 0 0 (fr 102 ad sz) := by
  refine Met.ofW (cc := cL_cell) (maxL := 2) (ret := (some .int)) (by decide) rfl ?_
  intro p e s m args below meth c s₁ B hml hv0
  obtain ⟨rfl, ⟨rfl, hP, hK⟩, hX⟩ := hv0
  have hx := B.exec
  have hb := B.bytes
  have hr := B.returns
  have hts := atoms_spec (ws := wsL_cell) B.pre
  have hown : s.vm.findClass RL = some m.cls := findClass_of_methodNamed B.named
  have hlocks := B.notSynchronized
  have hS : va_S (fr 102 ad s.heap.size) s.heap s.heap [] := va_S.rf
  have hA : ∀ k, k < 102 → fr 102 ad s.heap.size (ad k) := fr_ad
  have hl := lv_entry ([.ref b, .int (nI k)]) (n := 2) (Nat.le_of_ble_eq_true rfl)
  rw [lg_entry_eq]
  generalize (lg_sl ([.ref b, .int (nI k)]) ++ List.replicate (2 - (lg_sl ([.ref b, .int (nI k)])).length) Slot.unset).toArray = ls at hl ⊢
  have hl : lv_has ls 2 [(0, .ref b), (1, .int (nI k))] := hl
  refine lv_iload_n hx hb dL_cell_0 rfl (lv_at hl 1 rfl) ?_
  refine lv_aload_n hx hb dL_cell_1 rfl (lv_at hl 0 rfl) ?_
  refine va_slen hx hb hX hbl hbA hS dL_cell_2 ?_
  have hw := wn_le (x := Int32.ofNat L) (y := nI k) (a := L) (b := k) rfl rfl (by omega) (by omega)
  refine lv_icmp_ge (tgt := 12) hx hb dL_cell_3 (by decide) (fun c1 => ?_) (fun c1 => ?_)
  · have q : ¬ k < L := Nat.not_lt.mpr (hw.mp c1)
    refine lv_ldc (v := 2753881) hx hb hown (hts (.constant RL 7 (2753881)) (List.mem_of_getElem? (i := 1) rfl)) dL_cell_12 ?_
    refine lv_iload_n hx hb dL_cell_14 rfl (lv_at hl 1 rfl) ?_
    refine lv_imul hx hb dL_cell_15 ?_
    refine lv_sipush (v := 12503) hx hb dL_cell_16 (by decide) ?_
    refine lv_iadd hx hb dL_cell_19 ?_
    exact w_iret hx hb hr hlocks hK hP hS ⟨by unfold cellV; rw [if_neg q], rfl, rfl, rfl⟩ dL_cell_20
  · have q : k < L := Nat.not_le.mp (fun z => c1 (hw.mpr z))
    refine lv_aload_n hx hb dL_cell_6 rfl (lv_at hl 0 rfl) ?_
    refine lv_iload_n hx hb dL_cell_7 rfl (lv_at hl 1 rfl) ?_
    refine va_sld hx hb hX hbl hbA hS (vp_in_nI q (by omega)) dL_cell_8 ?_
    rw [nI_clamp (by omega)]
    refine lv_goto (tgt := 20) hx hb dL_cell_9 (by decide) ?_
    exact w_iret hx hb hr hlocks hK hP hS ⟨by unfold cellV; rw [if_pos q], rfl, rfl, rfl⟩ dL_cell_20

set_option maxHeartbeats 4000000 in
set_option maxRecDepth 100000 in
theorem lp_L_same {p : Program} {l : Launch} {e : Env} {s : State} {m : MethodId} {args : Array Value} {below : List Frame} {meth : Method} {c : Code} {Q : State → Prop} {D : va_G} {cA : Nat → ClassId} {ad : Nat → Nat} (hi : inj 102 ad) (hx : p.tables.exec = Jvm.exec) (hb : c.code = cL_same) (hml : c.maxLocals = 3) (hown : s.vm.findClass RL = some m.cls) (hts : ∀ w ∈ wsL_same, w.before args s = true) (hK : WK D cA s) (I : SI) (J : SJ) (X : SX) (q1 q2 : Nat) (f : Nat → Int32) (kx : ∀ (H : Heap) (locs : List Loc), WP 102 D cA ad I J X H → va_S (fr 102 ad s.heap.size) s.heap H locs → ∀ (ls : Array Slot), lv_has ls 3 [(0, .ref (q1))] → W p l e (headSpec wsL_same ({ frames := 2, cells := 0, slots := 0, locals := 100 })).room s m args below meth c H locs 0 0 Q (F0 m 25 ls [])) : ∀ (t k : Nat), k + t = 64 → ∀ (H : Heap) (locs : List Loc), WP 102 D cA ad I J X H → AT cA q1 f H → AT cA q2 f H → va_S (fr 102 ad s.heap.size) s.heap H locs → ∀ (ls : Array Slot), lv_has ls 3 [(2, .int (nI (k))), (1, .ref (q2)), (0, .ref (q1))] → W p l e (headSpec wsL_same ({ frames := 2, cells := 0, slots := 0, locals := 100 })).room s m args below meth c H locs 0 0 Q (F0 m 2 ls []) := by
  intro t
  induction t with
  | zero =>
    intro k hk H locs hP hT1 hT2 hS ls hl
    obtain rfl : 64 = k := by omega
    refine lv_iload_n hx hb dL_same_2 rfl (lv_at hl 0 rfl) ?_
    refine lv_bipush (v := 64) hx hb dL_same_3 (by decide) ?_
    refine lv_icmp_ge (tgt := 25) hx hb dL_same_5 (by decide) (fun cc => ?_) (fun cc => ?_)
    · have qcc : 64 ≤ 64 := (wn_le (a := 64) (b := 64) rfl rfl (by omega) (by omega)).mp cc
      exact kx H locs hP hS ls (lv_sub hl [2] rfl)
    · have qcc : ¬ 64 ≤ 64 := fun z => cc ((wn_le (a := 64) (b := 64) rfl rfl (by omega) (by omega)).mpr z)
      exact absurd qcc (by omega)
  | succ t ih =>
    intro k hk H locs hP hT1 hT2 hS ls hl
    refine lv_iload_n hx hb dL_same_2 rfl (lv_at hl 0 rfl) ?_
    refine lv_bipush (v := 64) hx hb dL_same_3 (by decide) ?_
    refine lv_icmp_ge (tgt := 25) hx hb dL_same_5 (by decide) (fun cc => ?_) (fun cc => ?_)
    · have qcc : 64 ≤ k := (wn_le (a := 64) (b := k) rfl rfl (by omega) (by omega)).mp cc
      exact absurd qcc (by omega)
    · have qcc : ¬ 64 ≤ k := fun z => cc ((wn_le (a := 64) (b := k) rfl rfl (by omega) (by omega)).mpr z)
      refine lv_aload_n hx hb dL_same_8 rfl (lv_at hl 2 rfl) ?_
      refine lv_iload_n hx hb dL_same_9 rfl (lv_at hl 0 rfl) ?_
      refine t_iald hx hb hK hT1 (by omega) rfl dL_same_10 ?_
      refine lv_aload_n hx hb dL_same_11 rfl (lv_at hl 1 rfl) ?_
      refine lv_iload_n hx hb dL_same_12 rfl (lv_at hl 0 rfl) ?_
      refine t_iald hx hb hK hT2 (by omega) rfl dL_same_13 ?_
      refine lv_icmp_eq (tgt := 19) hx hb dL_same_14 (by decide) (fun c14 => ?_) (fun c14 => ?_)
      · refine lv_iinc (v := nI (k + 1)) (lv' := [(2, .int (nI (k + 1))), (1, .ref (q2)), (0, .ref (q1))]) hx hb dL_same_19 hl (k := 0) rfl (wn_inc rfl) (by decide) rfl (fun ls hl => ?_)
        refine lv_goto (tgt := 2) hx hb dL_same_22 (by decide) ?_
        exact ih (k + 1) (by omega) H locs hP hT1 hT2 hS ls (lv_cong (l := [(2, .int (nI (k + 1))), (1, .ref (q2)), (0, .ref (q1))]) (l' := [(2, .int (nI ((k + 1)))), (1, .ref (q2)), (0, .ref (q1))]) (lv_sub hl [0, 1, 2] rfl) (by subst_vars; rfl))
      · exact absurd rfl c14

set_option maxHeartbeats 4000000 in
set_option maxRecDepth 100000 in
theorem c_L_same (l : Launch) (D : va_G) (cA : Nat → ClassId) (ad : Nat → Nat) (hi : inj 102 ad) (I : SI) (J : SJ) (X : SX) (q1 q2 : Nat) (f : Nat → Int32) (sz : Nat) : Met l yL_same wsL_same ({ frames := 2, cells := 0, slots := 0, locals := 100 }) (va_Pc [.ref q1, .ref q2] (wPreT D cA ad I J X q1 q2 f sz)) (qI 102 D cA ad sz 1 I J X) 0 0 (fr 102 ad sz) := by
  refine Met.ofW (cc := cL_same) (maxL := 3) (ret := (some .boolean)) (by decide) rfl ?_
  intro p e s m args below meth c s₁ B hml hv0
  obtain ⟨rfl, ⟨rfl, hP, hK⟩, hT1, hT2⟩ := hv0
  have hx := B.exec
  have hb := B.bytes
  have hr := B.returns
  have hts := atoms_spec (ws := wsL_same) B.pre
  have hown : s.vm.findClass RL = some m.cls := findClass_of_methodNamed B.named
  have hlocks := B.notSynchronized
  have hS : va_S (fr 102 ad s.heap.size) s.heap s.heap [] := va_S.rf
  have hA : ∀ k, k < 102 → fr 102 ad s.heap.size (ad k) := fr_ad
  have hl := lv_entry ([.ref q1, .ref q2]) (n := 3) (Nat.le_of_ble_eq_true rfl)
  rw [lg_entry_eq]
  generalize (lg_sl ([.ref q1, .ref q2]) ++ List.replicate (3 - (lg_sl ([.ref q1, .ref q2])).length) Slot.unset).toArray = ls at hl ⊢
  have hl : lv_has ls 3 [(0, .ref q1), (1, .ref q2)] := hl
  refine lv_iconst (v := 0) hx hb dL_same_0 (by decide) ?_
  refine lv_istore_n (lv' := [(2, .int (0)), (0, .ref (q1)), (1, .ref (q2))]) hx hb dL_same_1 rfl hl (by decide) rfl (fun ls hl => ?_)
  refine lp_L_same hi hx hb hml hown hts hK I J X q1 q2 f (fun H locs hP hS ls hl => ?_) 64 0 (by decide) _ _ hP hT1 hT2 hS ls (lv_cong (l := [(2, .int (0)), (1, .ref (q2)), (0, .ref (q1))]) (l' := [(2, .int (nI (0))), (1, .ref (q2)), (0, .ref (q1))]) (lv_sub hl [0, 2, 1] rfl) (by subst_vars; rfl))
  refine lv_iconst (v := 1) hx hb dL_same_25 (by decide) ?_
  exact w_zret hx hb hr rfl hlocks hK hP hS ⟨by subst_vars; rfl, by subst_vars; rfl, by subst_vars; rfl, by subst_vars; rfl⟩ dL_same_26
