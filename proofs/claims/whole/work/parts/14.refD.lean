/-! lists and ways: pure -/
def isL (I : SI) (r k : Nat) : Prop := I 104 k = 0 ∧ I 103 (5 * r + k) = 0
def isLF (I : SI) (r k : Nat) : Int32 := if I 104 k = 0 then (if I 103 (5 * r + k) = 0 then 1 else 0) else 0
theorem isLF_y {I : SI} {r k : Nat} (h : ¬ isLF I r k = 0) : isL I r k := by
  unfold isLF at h
  by_cases h1 : I 104 k = 0
  · rw [if_pos h1] at h
    by_cases h2 : I 103 (5 * r + k) = 0
    · exact ⟨h1, h2⟩
    · rw [if_neg h2] at h; exact absurd rfl h
  · rw [if_neg h1] at h; exact absurd rfl h
theorem isLF_n {I : SI} {r k : Nat} (h : isLF I r k = 0) : ¬ isL I r k := fun z => by
  unfold isLF at h
  rw [if_pos z.1, if_pos z.2] at h
  exact absurd h (by decide)
def ahC (J : SJ) (r k j : Nat) : Prop := J 106 (9 * r + 4 + k) < J 106 (9 * r + 4 + j) ∨ (J 106 (9 * r + 4 + j) = J 106 (9 * r + 4 + k) ∧ j < k)
noncomputable def ahN (I : SI) (J : SJ) (r k : Nat) : Nat → Nat
  | 0 => 0
  | j + 1 => ahN I J r k j + (@ite Nat (isL I r j ∧ ahC J r k j) (Classical.propDecidable _) 1 0)

theorem inX5_isListed_X5 : ∀ w ∈ wsX50, w ∈ wsX5_isListed := by decide +kernel
set_option maxHeartbeats 4000000 in
set_option maxRecDepth 100000 in
/-- X5_isListed -/
theorem c_X5_isListed (l : Launch) (nW : Nat) (D : va_G) (cA : Nat → ClassId) (ad : Nat → Nat) (hi : inj nW ad) (hNW : 114 ≤ nW) (I : SI) (J : SJ) (X : SX) (sz : Nat) (r k : Nat) (hr4 : r < 4) (hk5 : k < 5) : Met l yX5_isListed wsX5_isListed ({ frames := 0, cells := 0, slots := 0, locals := 0 }) (va_Pc [.ref (ad 102), .int (nI (r)), .int (nI (k))] (wPre nW D cA ad I J X sz)) (qI nW D cA ad sz (isLF I r k) I J X) 0 0 (fr nW ad sz) := by
  refine Met.ofW (cc := cX5_isListed) (maxL := 3) (ret := (some .boolean)) (by decide) rfl ?_
  intro p e s m args below meth c s₁ B hml hv
  obtain ⟨rfl, rfl, hP, hK⟩ := hv
  have hx := B.exec
  have hb := B.bytes
  have hr := B.returns
  have hts := atoms_spec (ws := wsX5_isListed) B.pre
  have hown : s.vm.findClass RX5 = some m.cls := findClass_of_methodNamed B.named
  have hlocks := B.notSynchronized
  have hS : va_S (fr nW ad s.heap.size) s.heap s.heap [] := va_S.rf
  have hA : ∀ k, k < nW → fr nW ad s.heap.size (ad k) := fr_ad
  have hl := lv_entry ([.ref (ad 102), .int (nI (r)), .int (nI (k))]) (n := 3) (Nat.le_of_ble_eq_true rfl)
  rw [lg_entry_eq]
  generalize (lg_sl ([.ref (ad 102), .int (nI (r)), .int (nI (k))]) ++ List.replicate (3 - (lg_sl ([.ref (ad 102), .int (nI (r)), .int (nI (k))])).length) Slot.unset).toArray = ls at hl ⊢
  have hl : lv_has ls 3 [(0, .ref (ad 102)), (1, .int (nI (r))), (2, .int (nI (k)))] := hl
  have hS0 := hS
  suffices K : ∀ (H : Heap) (locs : List Loc), WP nW D cA ad I J X H → va_S (fr nW ad s.heap.size) s.heap H locs → W p l e (headSpec wsX5_isListed ({ frames := 0, cells := 0, slots := 0, locals := 0 })).room s m ([.ref (ad 102), .int (nI (r)), .int (nI (k))] : List Value).toArray below meth c H locs 0 0 (MQ below (qI nW D cA ad s.heap.size (isLF I r k) I J X) ([.ref (ad 102), .int (nI (r)), .int (nI (k))] : List Value).toArray s 0 0 (fr nW ad s.heap.size)) (F0 m 0 ls []) from K _ _ hP hS
  clear hP hS hS0
  intro H locs hP hS
  refine lv_aload_n hx hb dX5_isListed_0 rfl (lv_at hl 0 rfl) ?_
  refine w_get (C := RX5) (T := TX5) (N := 15) (v := .ref (ad 104)) (index := 13) hx hb hts inX5_isListed_X5 hown hK hP 102 1 ⟨rfl, rfl, by decide⟩ (by omega) rfl (List.mem_of_getElem? (i := 1) rfl) (fun _ h9 => h9) dX5_isListed_1 ?_
  refine lv_iload_n hx hb dX5_isListed_4 rfl (lv_at hl 2 rfl) ?_
  refine w_iald hx hb hK hP 104 (k) ⟨rfl, (by show k < 5; omega)⟩ (by omega) rfl dX5_isListed_5 ?_
  refine lv_if_ne (tgt := 26) hx hb dX5_isListed_6 (by decide) (fun c6 => ?_) (fun c6 => ?_)
  · refine lv_iconst (v := 0) hx hb dX5_isListed_26 (by decide) ?_
    exact w_zret hx hb hr rfl hlocks hK hP hS ⟨by unfold isLF; rw [if_neg c6], by subst_vars; rfl, by subst_vars; rfl, by subst_vars; rfl⟩ dX5_isListed_27
  · refine lv_aload_n hx hb dX5_isListed_9 rfl (lv_at hl 0 rfl) ?_
    refine w_get (C := RX5) (T := TX5) (N := 15) (v := .ref (ad 103)) (index := 7) hx hb hts inX5_isListed_X5 hown hK hP 102 0 ⟨rfl, rfl, by decide⟩ (by omega) rfl (List.mem_of_getElem? (i := 2) rfl) (fun _ h9 => h9) dX5_isListed_10 ?_
    refine lv_iconst (v := 5) hx hb dX5_isListed_13 (by decide) ?_
    refine lv_iload_n hx hb dX5_isListed_14 rfl (lv_at hl 1 rfl) ?_
    refine w_imulN (a := 5) (b := r) hx hb rfl rfl dX5_isListed_15 ?_
    refine lv_iload_n hx hb dX5_isListed_16 rfl (lv_at hl 2 rfl) ?_
    refine w_iaddN (a := (5 * r)) (b := k) hx hb rfl rfl dX5_isListed_17 ?_
    refine w_iald hx hb hK hP 103 ((5 * r) + k) ⟨rfl, (by show (5 * r) + k < 20; omega)⟩ (by omega) rfl dX5_isListed_18 ?_
    refine lv_if_ne (tgt := 26) hx hb dX5_isListed_19 (by decide) (fun c19 => ?_) (fun c19 => ?_)
    · refine lv_iconst (v := 0) hx hb dX5_isListed_26 (by decide) ?_
      exact w_zret hx hb hr rfl hlocks hK hP hS ⟨by unfold isLF; rw [if_pos c6, if_neg c19], by subst_vars; rfl, by subst_vars; rfl, by subst_vars; rfl⟩ dX5_isListed_27
    · refine lv_iconst (v := 1) hx hb dX5_isListed_22 (by decide) ?_
      refine lv_goto (tgt := 27) hx hb dX5_isListed_23 (by decide) ?_
      exact w_zret hx hb hr rfl hlocks hK hP hS ⟨by unfold isLF; rw [if_pos c6, if_pos c19], by subst_vars; rfl, by subst_vars; rfl, by subst_vars; rfl⟩ dX5_isListed_27

theorem inX5_ahead_X5 : ∀ w ∈ wsX50, w ∈ wsX5_ahead := by decide +kernel
set_option maxHeartbeats 4000000 in
set_option maxRecDepth 100000 in
theorem lp_X5_ahead {p : Program} {l : Launch} {e : Env} {s : State} {m : MethodId} {args : Array Value} {below : List Frame} {meth : Method} {c : Code} {Q : State → Prop} {nW : Nat} {D : va_G} {cA : Nat → ClassId} {ad : Nat → Nat} (hi : inj nW ad) (hNW : 114 ≤ nW) (hx : p.tables.exec = Jvm.exec) (hb : c.code = cX5_ahead) (hml : c.maxLocals = 9) (hown : s.vm.findClass RX5 = some m.cls) (hts : ∀ w ∈ wsX5_ahead, w.before args s = true) (hK : WK D cA s) (I : SI) (J : SJ) (X : SX) (r k : Nat) (hr4 : r < 4) (hk5 : k < 5) (kx :  ∀ (H : Heap) (locs : List Loc), WP nW D cA ad I J X H → va_S (fr nW ad s.heap.size) s.heap H locs → ∀ (ls : Array Slot), lv_has ls 9 [(3, .int (nI (ahN I J r k 5))), (0, .ref (ad 102))] → W p l e (headSpec wsX5_ahead ({ frames := 1, cells := 0, slots := 0, locals := 22 })).room s m args below meth c H locs 0 0 Q (F0 m 88 ls [])) : ∀ (t j : Nat), j + t = 5 →  ∀ (H : Heap) (locs : List Loc), WP nW D cA ad I J X H → va_S (fr nW ad s.heap.size) s.heap H locs → ∀ (ls : Array Slot), lv_has ls 9 [(4, .int (nI (j))), (3, .int (nI (ahN I J r k (j)))), (1, .int (nI (r))), (2, .int (nI (k))), (0, .ref (ad 102))] → W p l e (headSpec wsX5_ahead ({ frames := 1, cells := 0, slots := 0, locals := 22 })).room s m args below meth c H locs 0 0 Q (F0 m 5 ls []) := by
  have hA : ∀ k, k < nW → fr nW ad s.heap.size (ad k) := fr_ad
  intro t
  induction t with
  | zero =>
    intro j hj  H locs hP hS ls hl
    obtain rfl : 5 = j := by omega
    refine lv_iload hx hb dX5_ahead_5 (lv_at hl 0 rfl) ?_
    refine lv_iconst (v := 5) hx hb dX5_ahead_7 (by decide) ?_
    refine lv_icmp_ge (tgt := 88) hx hb dX5_ahead_8 (by decide) (fun cc => ?_) (fun cc => ?_)
    · have qcc : 5 ≤ 5 := (wn_le (a := 5) (b := 5) rfl rfl (by omega) (by omega)).mp cc
      exact kx  H locs hP hS ls (lv_cong (l := [(3, .int (nI (ahN I J r k (5)))), (0, .ref (ad 102))]) (l' := [(3, .int (nI (ahN I J r k 5))), (0, .ref (ad 102))]) (lv_sub hl [1, 4] rfl) (by subst_vars; rfl))
    · have qcc : ¬ 5 ≤ 5 := fun z => cc ((wn_le (a := 5) (b := 5) rfl rfl (by omega) (by omega)).mpr z)
      exact absurd qcc (by omega)
  | succ t ih =>
    intro j hj  H locs hP hS ls hl
    refine lv_iload hx hb dX5_ahead_5 (lv_at hl 0 rfl) ?_
    refine lv_iconst (v := 5) hx hb dX5_ahead_7 (by decide) ?_
    refine lv_icmp_ge (tgt := 88) hx hb dX5_ahead_8 (by decide) (fun cc => ?_) (fun cc => ?_)
    · have qcc : 5 ≤ j := (wn_le (a := 5) (b := j) rfl rfl (by omega) (by omega)).mp cc
      exact absurd qcc (by omega)
    · have qcc : ¬ 5 ≤ j := fun z => cc ((wn_le (a := 5) (b := j) rfl rfl (by omega) (by omega)).mpr z)
      refine lv_aload_n hx hb dX5_ahead_11 rfl (lv_at hl 4 rfl) ?_
      refine w_get (C := RX5) (T := TX5) (N := 15) (v := .ref (ad 106)) (index := 27) hx hb hts inX5_ahead_X5 hown hK hP 102 6 ⟨rfl, rfl, by decide⟩ (by omega) rfl (List.mem_of_getElem? (i := 1) rfl) (fun _ h9 => h9) dX5_ahead_12 ?_
      refine lv_bipush (v := 9) hx hb dX5_ahead_15 (by decide) ?_
      refine lv_iload_n hx hb dX5_ahead_17 rfl (lv_at hl 2 rfl) ?_
      refine w_imulN (a := 9) (b := r) hx hb rfl rfl dX5_ahead_18 ?_
      refine lv_iconst (v := 4) hx hb dX5_ahead_19 (by decide) ?_
      refine w_iaddN (a := (9 * r)) (b := 4) hx hb rfl rfl dX5_ahead_20 ?_
      refine lv_iload hx hb dX5_ahead_21 (lv_at hl 0 rfl) ?_
      refine w_iaddN (a := ((9 * r) + 4)) (b := j) hx hb rfl rfl dX5_ahead_23 ?_
      refine w_lald hx hb hK hP 106 (((9 * r) + 4) + j) ⟨rfl, (by show ((9 * r) + 4) + j < 36; omega)⟩ (by omega) rfl dX5_ahead_24 ?_
      refine lv_lstore (lv' := [(5, .long (J 106 (((9 * r) + 4) + j))), (4, .int (nI (j))), (3, .int (nI (ahN I J r k (j)))), (1, .int (nI (r))), (2, .int (nI (k))), (0, .ref (ad 102))]) hx hb dX5_ahead_25 hl (by decide) rfl (fun ls hl => ?_)
      refine lv_aload_n hx hb dX5_ahead_27 rfl (lv_at hl 5 rfl) ?_
      refine w_get (C := RX5) (T := TX5) (N := 15) (v := .ref (ad 106)) (index := 27) hx hb hts inX5_ahead_X5 hown hK hP 102 6 ⟨rfl, rfl, by decide⟩ (by omega) rfl (List.mem_of_getElem? (i := 1) rfl) (fun _ h9 => h9) dX5_ahead_28 ?_
      refine lv_bipush (v := 9) hx hb dX5_ahead_31 (by decide) ?_
      refine lv_iload_n hx hb dX5_ahead_33 rfl (lv_at hl 3 rfl) ?_
      refine w_imulN (a := 9) (b := r) hx hb rfl rfl dX5_ahead_34 ?_
      refine lv_iconst (v := 4) hx hb dX5_ahead_35 (by decide) ?_
      refine w_iaddN (a := (9 * r)) (b := 4) hx hb rfl rfl dX5_ahead_36 ?_
      refine lv_iload_n hx hb dX5_ahead_37 rfl (lv_at hl 4 rfl) ?_
      refine w_iaddN (a := ((9 * r) + 4)) (b := k) hx hb rfl rfl dX5_ahead_38 ?_
      refine w_lald hx hb hK hP 106 (((9 * r) + 4) + k) ⟨rfl, (by show ((9 * r) + 4) + k < 36; omega)⟩ (by omega) rfl dX5_ahead_39 ?_
      refine lv_lstore (lv' := [(7, .long (J 106 (((9 * r) + 4) + k))), (5, .long (J 106 (((9 * r) + 4) + j))), (4, .int (nI (j))), (3, .int (nI (ahN I J r k (j)))), (1, .int (nI (r))), (2, .int (nI (k))), (0, .ref (ad 102))]) hx hb dX5_ahead_40 hl (by decide) rfl (fun ls hl => ?_)
      refine lv_iload_n hx hb dX5_ahead_42 rfl (lv_at hl 3 rfl) ?_
      refine lv_aload_n hx hb dX5_ahead_43 rfl (lv_at hl 6 rfl) ?_
      refine lv_iload_n hx hb dX5_ahead_44 rfl (lv_at hl 4 rfl) ?_
      refine lv_iload hx hb dX5_ahead_45 (lv_at hl 2 rfl) ?_
      refine w_calli (va_runV (As := [.int (nI (r)), .int (nI (j))]) (rest := [.int (nI (ahN I J r k (j)))]) ⟨hx, hb, hml, hown, hts⟩ (c_X5_isListed l nW D cA ad hi hNW I J X H.size r j (by omega) (by omega)) (cwV 2 hts gX5_ahead_X5_isListed rfl rfl rfl (by decide +kernel) ⟨Nat.le_of_ble_eq_true rfl, Nat.le_of_ble_eq_true rfl⟩) (w_preV hK hP 102 (by omega) ⟨rfl, rfl⟩ rfl) rfl rfl hl.1 rfl (lv_room (Nat.le_of_ble_eq_true rfl)) dX5_ahead_47 ⟨Nat.le_of_ble_eq_true rfl, Nat.le_of_ble_eq_true rfl⟩) hS (fun H locs hP hS => ?_)
      refine lv_if_eq (tgt := 79) hx hb dX5_ahead_50 (by decide) (fun c50 => ?_) (fun c50 => ?_)
      · have hz : ¬ (isL I r j ∧ ahC J r k j) := fun z => isLF_n c50 z.1
        refine lv_iconst (v := 0) hx hb dX5_ahead_79 (by decide) ?_
        refine w_iaddN (a := (ahN I J r k (j))) (b := 0) hx hb rfl rfl dX5_ahead_80 ?_
        refine lv_istore_n (lv' := [(3, .int (nI ((ahN I J r k (j)) + 0))), (7, .long (J 106 (((9 * r) + 4) + k))), (5, .long (J 106 (((9 * r) + 4) + j))), (4, .int (nI (j))), (1, .int (nI (r))), (2, .int (nI (k))), (0, .ref (ad 102))]) hx hb dX5_ahead_81 rfl hl (by decide) rfl (fun ls hl => ?_)
        refine lv_iinc (v := nI (j + 1)) (lv' := [(4, .int (nI (j + 1))), (3, .int (nI ((ahN I J r k (j)) + 0))), (7, .long (J 106 (((9 * r) + 4) + k))), (5, .long (J 106 (((9 * r) + 4) + j))), (1, .int (nI (r))), (2, .int (nI (k))), (0, .ref (ad 102))]) hx hb dX5_ahead_82 hl (k := 3) rfl (wn_inc rfl) (by decide) rfl (fun ls hl => ?_)
        refine lv_goto (tgt := 5) hx hb dX5_ahead_85 (by decide) ?_
        exact ih (j + 1) (by omega)  H locs hP hS ls (lv_cong (l := [(4, .int (nI (j + 1))), (3, .int (nI ((ahN I J r k (j)) + 0))), (1, .int (nI (r))), (2, .int (nI (k))), (0, .ref (ad 102))]) (l' := [(4, .int (nI ((j + 1)))), (3, .int (nI (ahN I J r k ((j + 1))))), (1, .int (nI (r))), (2, .int (nI (k))), (0, .ref (ad 102))]) (lv_sub hl [0, 1, 4, 5, 6] rfl) (by subst_vars; first | (simp only [ahN, if_pos hz]; done) | (simp only [ahN, if_neg hz]; done)))
      · have hl50 := isLF_y c50
        refine lv_lload hx hb dX5_ahead_53 (lv_at hl 1 rfl) ?_
        refine lv_lload hx hb dX5_ahead_55 (lv_at hl 0 rfl) ?_
        refine W.lcmp hx hb dX5_ahead_57 ?_
        refine lv_if_gt (tgt := 75) hx hb dX5_ahead_58 (by decide) (fun c58 => ?_) (fun c58 => ?_)
        · have qc58 := (lg_cmp_gt _ _).mp c58
          have hz : isL I r j ∧ ahC J r k j := ⟨hl50, Or.inl qc58⟩
          refine lv_iconst (v := 1) hx hb dX5_ahead_75 (by decide) ?_
          refine lv_goto (tgt := 80) hx hb dX5_ahead_76 (by decide) ?_
          refine w_iaddN (a := (ahN I J r k (j))) (b := 1) hx hb rfl rfl dX5_ahead_80 ?_
          refine lv_istore_n (lv' := [(3, .int (nI ((ahN I J r k (j)) + 1))), (7, .long (J 106 (((9 * r) + 4) + k))), (5, .long (J 106 (((9 * r) + 4) + j))), (4, .int (nI (j))), (1, .int (nI (r))), (2, .int (nI (k))), (0, .ref (ad 102))]) hx hb dX5_ahead_81 rfl hl (by decide) rfl (fun ls hl => ?_)
          refine lv_iinc (v := nI (j + 1)) (lv' := [(4, .int (nI (j + 1))), (3, .int (nI ((ahN I J r k (j)) + 1))), (7, .long (J 106 (((9 * r) + 4) + k))), (5, .long (J 106 (((9 * r) + 4) + j))), (1, .int (nI (r))), (2, .int (nI (k))), (0, .ref (ad 102))]) hx hb dX5_ahead_82 hl (k := 3) rfl (wn_inc rfl) (by decide) rfl (fun ls hl => ?_)
          refine lv_goto (tgt := 5) hx hb dX5_ahead_85 (by decide) ?_
          exact ih (j + 1) (by omega)  H locs hP hS ls (lv_cong (l := [(4, .int (nI (j + 1))), (3, .int (nI ((ahN I J r k (j)) + 1))), (1, .int (nI (r))), (2, .int (nI (k))), (0, .ref (ad 102))]) (l' := [(4, .int (nI ((j + 1)))), (3, .int (nI (ahN I J r k ((j + 1))))), (1, .int (nI (r))), (2, .int (nI (k))), (0, .ref (ad 102))]) (lv_sub hl [0, 1, 4, 5, 6] rfl) (by subst_vars; first | (simp only [ahN, if_pos hz]; done) | (simp only [ahN, if_neg hz]; done)))
        · have qc58 := fun z => c58 ((lg_cmp_gt _ _).mpr z)
          refine lv_lload hx hb dX5_ahead_61 (lv_at hl 1 rfl) ?_
          refine lv_lload hx hb dX5_ahead_63 (lv_at hl 0 rfl) ?_
          refine W.lcmp hx hb dX5_ahead_65 ?_
          refine lv_if_ne (tgt := 79) hx hb dX5_ahead_66 (by decide) (fun c66 => ?_) (fun c66 => ?_)
          · have qc66 := fun z => c66 ((lg_cmp_eq _ _).mpr z)
            have hz : ¬ (isL I r j ∧ ahC J r k j) := fun z => z.2.elim qc58 (fun w => qc66 w.1)
            refine lv_iconst (v := 0) hx hb dX5_ahead_79 (by decide) ?_
            refine w_iaddN (a := (ahN I J r k (j))) (b := 0) hx hb rfl rfl dX5_ahead_80 ?_
            refine lv_istore_n (lv' := [(3, .int (nI ((ahN I J r k (j)) + 0))), (7, .long (J 106 (((9 * r) + 4) + k))), (5, .long (J 106 (((9 * r) + 4) + j))), (4, .int (nI (j))), (1, .int (nI (r))), (2, .int (nI (k))), (0, .ref (ad 102))]) hx hb dX5_ahead_81 rfl hl (by decide) rfl (fun ls hl => ?_)
            refine lv_iinc (v := nI (j + 1)) (lv' := [(4, .int (nI (j + 1))), (3, .int (nI ((ahN I J r k (j)) + 0))), (7, .long (J 106 (((9 * r) + 4) + k))), (5, .long (J 106 (((9 * r) + 4) + j))), (1, .int (nI (r))), (2, .int (nI (k))), (0, .ref (ad 102))]) hx hb dX5_ahead_82 hl (k := 3) rfl (wn_inc rfl) (by decide) rfl (fun ls hl => ?_)
            refine lv_goto (tgt := 5) hx hb dX5_ahead_85 (by decide) ?_
            exact ih (j + 1) (by omega)  H locs hP hS ls (lv_cong (l := [(4, .int (nI (j + 1))), (3, .int (nI ((ahN I J r k (j)) + 0))), (1, .int (nI (r))), (2, .int (nI (k))), (0, .ref (ad 102))]) (l' := [(4, .int (nI ((j + 1)))), (3, .int (nI (ahN I J r k ((j + 1))))), (1, .int (nI (r))), (2, .int (nI (k))), (0, .ref (ad 102))]) (lv_sub hl [0, 1, 4, 5, 6] rfl) (by subst_vars; first | (simp only [ahN, if_pos hz]; done) | (simp only [ahN, if_neg hz]; done)))
          · have qc66 := (lg_cmp_eq _ _).mp c66
            refine lv_iload hx hb dX5_ahead_69 (lv_at hl 2 rfl) ?_
            refine lv_iload_n hx hb dX5_ahead_71 rfl (lv_at hl 5 rfl) ?_
            refine lv_icmp_ge (tgt := 79) hx hb dX5_ahead_72 (by decide) (fun c72 => ?_) (fun c72 => ?_)
            · have qc72 : k ≤ j := (wn_le (a := k) (b := j) rfl rfl (by omega) (by omega)).mp c72
              have hz : ¬ (isL I r j ∧ ahC J r k j) := fun z => z.2.elim qc58 (fun w => absurd w.2 (by omega))
              refine lv_iconst (v := 0) hx hb dX5_ahead_79 (by decide) ?_
              refine w_iaddN (a := (ahN I J r k (j))) (b := 0) hx hb rfl rfl dX5_ahead_80 ?_
              refine lv_istore_n (lv' := [(3, .int (nI ((ahN I J r k (j)) + 0))), (7, .long (J 106 (((9 * r) + 4) + k))), (5, .long (J 106 (((9 * r) + 4) + j))), (4, .int (nI (j))), (1, .int (nI (r))), (2, .int (nI (k))), (0, .ref (ad 102))]) hx hb dX5_ahead_81 rfl hl (by decide) rfl (fun ls hl => ?_)
              refine lv_iinc (v := nI (j + 1)) (lv' := [(4, .int (nI (j + 1))), (3, .int (nI ((ahN I J r k (j)) + 0))), (7, .long (J 106 (((9 * r) + 4) + k))), (5, .long (J 106 (((9 * r) + 4) + j))), (1, .int (nI (r))), (2, .int (nI (k))), (0, .ref (ad 102))]) hx hb dX5_ahead_82 hl (k := 3) rfl (wn_inc rfl) (by decide) rfl (fun ls hl => ?_)
              refine lv_goto (tgt := 5) hx hb dX5_ahead_85 (by decide) ?_
              exact ih (j + 1) (by omega)  H locs hP hS ls (lv_cong (l := [(4, .int (nI (j + 1))), (3, .int (nI ((ahN I J r k (j)) + 0))), (1, .int (nI (r))), (2, .int (nI (k))), (0, .ref (ad 102))]) (l' := [(4, .int (nI ((j + 1)))), (3, .int (nI (ahN I J r k ((j + 1))))), (1, .int (nI (r))), (2, .int (nI (k))), (0, .ref (ad 102))]) (lv_sub hl [0, 1, 4, 5, 6] rfl) (by subst_vars; first | (simp only [ahN, if_pos hz]; done) | (simp only [ahN, if_neg hz]; done)))
            · have qc72 : ¬ k ≤ j := fun z => c72 ((wn_le (a := k) (b := j) rfl rfl (by omega) (by omega)).mpr z)
              have hz : isL I r j ∧ ahC J r k j := ⟨hl50, Or.inr ⟨qc66, by omega⟩⟩
              refine lv_iconst (v := 1) hx hb dX5_ahead_75 (by decide) ?_
              refine lv_goto (tgt := 80) hx hb dX5_ahead_76 (by decide) ?_
              refine w_iaddN (a := (ahN I J r k (j))) (b := 1) hx hb rfl rfl dX5_ahead_80 ?_
              refine lv_istore_n (lv' := [(3, .int (nI ((ahN I J r k (j)) + 1))), (7, .long (J 106 (((9 * r) + 4) + k))), (5, .long (J 106 (((9 * r) + 4) + j))), (4, .int (nI (j))), (1, .int (nI (r))), (2, .int (nI (k))), (0, .ref (ad 102))]) hx hb dX5_ahead_81 rfl hl (by decide) rfl (fun ls hl => ?_)
              refine lv_iinc (v := nI (j + 1)) (lv' := [(4, .int (nI (j + 1))), (3, .int (nI ((ahN I J r k (j)) + 1))), (7, .long (J 106 (((9 * r) + 4) + k))), (5, .long (J 106 (((9 * r) + 4) + j))), (1, .int (nI (r))), (2, .int (nI (k))), (0, .ref (ad 102))]) hx hb dX5_ahead_82 hl (k := 3) rfl (wn_inc rfl) (by decide) rfl (fun ls hl => ?_)
              refine lv_goto (tgt := 5) hx hb dX5_ahead_85 (by decide) ?_
              exact ih (j + 1) (by omega)  H locs hP hS ls (lv_cong (l := [(4, .int (nI (j + 1))), (3, .int (nI ((ahN I J r k (j)) + 1))), (1, .int (nI (r))), (2, .int (nI (k))), (0, .ref (ad 102))]) (l' := [(4, .int (nI ((j + 1)))), (3, .int (nI (ahN I J r k ((j + 1))))), (1, .int (nI (r))), (2, .int (nI (k))), (0, .ref (ad 102))]) (lv_sub hl [0, 1, 4, 5, 6] rfl) (by subst_vars; first | (simp only [ahN, if_pos hz]; done) | (simp only [ahN, if_neg hz]; done)))

set_option maxHeartbeats 4000000 in
set_option maxRecDepth 100000 in
/-- X5_ahead -/
theorem c_X5_ahead (l : Launch) (nW : Nat) (D : va_G) (cA : Nat → ClassId) (ad : Nat → Nat) (hi : inj nW ad) (hNW : 114 ≤ nW) (I : SI) (J : SJ) (X : SX) (sz : Nat) (r k : Nat) (hr4 : r < 4) (hk5 : k < 5) : Met l yX5_ahead wsX5_ahead ({ frames := 1, cells := 0, slots := 0, locals := 22 }) (va_Pc [.ref (ad 102), .int (nI (r)), .int (nI (k))] (wPre nW D cA ad I J X sz)) (qI nW D cA ad sz (nI (ahN I J r k 5)) I J X) 0 0 (fr nW ad sz) := by
  refine Met.ofW (cc := cX5_ahead) (maxL := 9) (ret := (some .int)) (by decide) rfl ?_
  intro p e s m args below meth c s₁ B hml hv
  obtain ⟨rfl, rfl, hP, hK⟩ := hv
  have hx := B.exec
  have hb := B.bytes
  have hr := B.returns
  have hts := atoms_spec (ws := wsX5_ahead) B.pre
  have hown : s.vm.findClass RX5 = some m.cls := findClass_of_methodNamed B.named
  have hlocks := B.notSynchronized
  have hS : va_S (fr nW ad s.heap.size) s.heap s.heap [] := va_S.rf
  have hA : ∀ k, k < nW → fr nW ad s.heap.size (ad k) := fr_ad
  have hl := lv_entry ([.ref (ad 102), .int (nI (r)), .int (nI (k))]) (n := 9) (Nat.le_of_ble_eq_true rfl)
  rw [lg_entry_eq]
  generalize (lg_sl ([.ref (ad 102), .int (nI (r)), .int (nI (k))]) ++ List.replicate (9 - (lg_sl ([.ref (ad 102), .int (nI (r)), .int (nI (k))])).length) Slot.unset).toArray = ls at hl ⊢
  have hl : lv_has ls 9 [(0, .ref (ad 102)), (1, .int (nI (r))), (2, .int (nI (k)))] := hl
  have hS0 := hS
  suffices K : ∀ (H : Heap) (locs : List Loc), WP nW D cA ad I J X H → va_S (fr nW ad s.heap.size) s.heap H locs → W p l e (headSpec wsX5_ahead ({ frames := 1, cells := 0, slots := 0, locals := 22 })).room s m ([.ref (ad 102), .int (nI (r)), .int (nI (k))] : List Value).toArray below meth c H locs 0 0 (MQ below (qI nW D cA ad s.heap.size (nI (ahN I J r k 5)) I J X) ([.ref (ad 102), .int (nI (r)), .int (nI (k))] : List Value).toArray s 0 0 (fr nW ad s.heap.size)) (F0 m 0 ls []) from K _ _ hP hS
  clear hP hS hS0
  intro H locs hP hS
  refine lv_iconst (v := 0) hx hb dX5_ahead_0 (by decide) ?_
  refine lv_istore_n (lv' := [(3, .int (0)), (0, .ref (ad 102)), (1, .int (nI (r))), (2, .int (nI (k)))]) hx hb dX5_ahead_1 rfl hl (by decide) rfl (fun ls hl => ?_)
  refine lv_iconst (v := 0) hx hb dX5_ahead_2 (by decide) ?_
  refine lv_istore (lv' := [(4, .int (0)), (3, .int (0)), (0, .ref (ad 102)), (1, .int (nI (r))), (2, .int (nI (k)))]) hx hb dX5_ahead_3 hl (by decide) rfl (fun ls hl => ?_)
  refine lp_X5_ahead hi hNW hx hb hml hown hts hK I J X r k hr4 hk5 (fun  H locs hP hS ls hl => ?_) (5) (0) (by omega)  H locs hP hS ls (lv_cong (l := [(4, .int (0)), (3, .int (0)), (1, .int (nI (r))), (2, .int (nI (k))), (0, .ref (ad 102))]) (l' := [(4, .int (nI (0))), (3, .int (nI (ahN I J r k 0))), (1, .int (nI (r))), (2, .int (nI (k))), (0, .ref (ad 102))]) (lv_sub hl [0, 1, 3, 4, 2] rfl) (by subst_vars; rfl))
  refine lv_iload_n hx hb dX5_ahead_88 rfl (lv_at hl 0 rfl) ?_
  exact w_iret hx hb hr hlocks hK hP hS ⟨by subst_vars; rfl, by subst_vars; rfl, by subst_vars; rfl, by subst_vars; rfl⟩ dX5_ahead_89

noncomputable def liF (I : SI) (J : SJ) (r : Nat) (pl : Int32) : Nat → Nat → Int32
  | 0, _ => -1
  | t + 1, k => @ite Int32 (isL I r k ∧ nI (ahN I J r k 5) = pl) (Classical.propDecidable _) (nI k) (liF I J r pl t (k + 1))

theorem inX5_listed_X5 : ∀ w ∈ wsX50, w ∈ wsX5_listed := by decide +kernel
set_option maxHeartbeats 4000000 in
set_option maxRecDepth 100000 in
theorem lp_X5_listed {p : Program} {l : Launch} {e : Env} {s : State} {m : MethodId} {args : Array Value} {below : List Frame} {meth : Method} {c : Code} {Q : State → Prop} {nW : Nat} {D : va_G} {cA : Nat → ClassId} {ad : Nat → Nat} (hi : inj nW ad) (hNW : 114 ≤ nW) (hx : p.tables.exec = Jvm.exec) (hb : c.code = cX5_listed) (hml : c.maxLocals = 4) (hown : s.vm.findClass RX5 = some m.cls) (hts : ∀ w ∈ wsX5_listed, w.before args s = true) (hK : WK D cA s) (I : SI) (J : SJ) (X : SX) (r : Nat) (pl : Int32) (hr4 : r < 4) (kx : liF I J r pl 5 0 = -1 → ∀ (H : Heap) (locs : List Loc), WP nW D cA ad I J X H → va_S (fr nW ad s.heap.size) s.heap H locs → ∀ (ls : Array Slot), lv_has ls 4 [(0, .ref (ad 102))] → W p l e (headSpec wsX5_listed ({ frames := 2, cells := 0, slots := 0, locals := 50 })).room s m args below meth c H locs 0 0 Q (F0 m 62 ls [])) (kr : ∀ (k : Nat), k < 5 → liF I J r pl 5 0 = nI k → ∀ (H : Heap) (locs : List Loc), WP nW D cA ad I J X H → va_S (fr nW ad s.heap.size) s.heap H locs → ∀ (ls : Array Slot), lv_has ls 4 [(3, .int (nI (k))), (0, .ref (ad 102))] → W p l e (headSpec wsX5_listed ({ frames := 2, cells := 0, slots := 0, locals := 50 })).room s m args below meth c H locs 0 0 Q (F0 m 54 ls [])) : ∀ (t k : Nat), k + t = 5 → (hq : liF I J r pl 5 0 = liF I J r pl t k) → ∀ (H : Heap) (locs : List Loc), WP nW D cA ad I J X H → va_S (fr nW ad s.heap.size) s.heap H locs → ∀ (ls : Array Slot), lv_has ls 4 [(3, .int (nI (k))), (1, .int (nI (r))), (2, .int (pl)), (0, .ref (ad 102))] → W p l e (headSpec wsX5_listed ({ frames := 2, cells := 0, slots := 0, locals := 50 })).room s m args below meth c H locs 0 0 Q (F0 m 30 ls []) := by
  have hA : ∀ k, k < nW → fr nW ad s.heap.size (ad k) := fr_ad
  intro t
  induction t with
  | zero =>
    intro k hj hq H locs hP hS ls hl
    obtain rfl : 5 = k := by omega
    refine lv_iload_n hx hb dX5_listed_30 rfl (lv_at hl 0 rfl) ?_
    refine lv_iconst (v := 5) hx hb dX5_listed_31 (by decide) ?_
    refine lv_icmp_ge (tgt := 62) hx hb dX5_listed_32 (by decide) (fun cc => ?_) (fun cc => ?_)
    · have qcc : 5 ≤ 5 := (wn_le (a := 5) (b := 5) rfl rfl (by omega) (by omega)).mp cc
      exact kx hq H locs hP hS ls (lv_sub hl [3] rfl)
    · have qcc : ¬ 5 ≤ 5 := fun z => cc ((wn_le (a := 5) (b := 5) rfl rfl (by omega) (by omega)).mpr z)
      exact absurd qcc (by omega)
  | succ t ih =>
    intro k hj hq H locs hP hS ls hl
    refine lv_iload_n hx hb dX5_listed_30 rfl (lv_at hl 0 rfl) ?_
    refine lv_iconst (v := 5) hx hb dX5_listed_31 (by decide) ?_
    refine lv_icmp_ge (tgt := 62) hx hb dX5_listed_32 (by decide) (fun cc => ?_) (fun cc => ?_)
    · have qcc : 5 ≤ k := (wn_le (a := 5) (b := k) rfl rfl (by omega) (by omega)).mp cc
      exact absurd qcc (by omega)
    · have qcc : ¬ 5 ≤ k := fun z => cc ((wn_le (a := 5) (b := k) rfl rfl (by omega) (by omega)).mpr z)
      refine lv_aload_n hx hb dX5_listed_35 rfl (lv_at hl 3 rfl) ?_
      refine lv_iload_n hx hb dX5_listed_36 rfl (lv_at hl 1 rfl) ?_
      refine lv_iload_n hx hb dX5_listed_37 rfl (lv_at hl 0 rfl) ?_
      refine w_calli (va_runV (As := [.int (nI (r)), .int (nI (k))]) (rest := []) ⟨hx, hb, hml, hown, hts⟩ (c_X5_isListed l nW D cA ad hi hNW I J X H.size r k (by omega) (by omega)) (cwV 2 hts gX5_listed_X5_isListed rfl rfl rfl (by decide +kernel) ⟨Nat.le_of_ble_eq_true rfl, Nat.le_of_ble_eq_true rfl⟩) (w_preV hK hP 102 (by omega) ⟨rfl, rfl⟩ rfl) rfl rfl hl.1 rfl (lv_room (Nat.le_of_ble_eq_true rfl)) dX5_listed_38 ⟨Nat.le_of_ble_eq_true rfl, Nat.le_of_ble_eq_true rfl⟩) hS (fun H locs hP hS => ?_)
      refine lv_if_eq (tgt := 56) hx hb dX5_listed_41 (by decide) (fun c41 => ?_) (fun c41 => ?_)
      · have hn : ¬ (isL I r k ∧ nI (ahN I J r k 5) = pl) := fun z => isLF_n c41 z.1
        refine lv_iinc (v := nI (k + 1)) (lv' := [(3, .int (nI (k + 1))), (1, .int (nI (r))), (2, .int (pl)), (0, .ref (ad 102))]) hx hb dX5_listed_56 hl (k := 0) rfl (wn_inc rfl) (by decide) rfl (fun ls hl => ?_)
        refine lv_goto (tgt := 30) hx hb dX5_listed_59 (by decide) ?_
        exact ih (k + 1) (by omega) (hq.trans (by rw [liF, if_neg hn])) H locs hP hS ls (lv_cong (l := [(3, .int (nI (k + 1))), (1, .int (nI (r))), (2, .int (pl)), (0, .ref (ad 102))]) (l' := [(3, .int (nI ((k + 1)))), (1, .int (nI (r))), (2, .int (pl)), (0, .ref (ad 102))]) (lv_sub hl [0, 1, 2, 3] rfl) (by subst_vars; rfl))
      · have hl41 := isLF_y c41
        refine lv_aload_n hx hb dX5_listed_44 rfl (lv_at hl 3 rfl) ?_
        refine lv_iload_n hx hb dX5_listed_45 rfl (lv_at hl 1 rfl) ?_
        refine lv_iload_n hx hb dX5_listed_46 rfl (lv_at hl 0 rfl) ?_
        refine w_calli (va_runV (As := [.int (nI (r)), .int (nI (k))]) (rest := []) ⟨hx, hb, hml, hown, hts⟩ (c_X5_ahead l nW D cA ad hi hNW I J X H.size r k (by omega) (by omega)) (cwV 2 hts gX5_listed_X5_ahead rfl rfl rfl (by decide +kernel) ⟨Nat.le_of_ble_eq_true rfl, Nat.le_of_ble_eq_true rfl⟩) (w_preV hK hP 102 (by omega) ⟨rfl, rfl⟩ rfl) rfl rfl hl.1 rfl (lv_room (Nat.le_of_ble_eq_true rfl)) dX5_listed_47 ⟨Nat.le_of_ble_eq_true rfl, Nat.le_of_ble_eq_true rfl⟩) hS (fun H locs hP hS => ?_)
        refine lv_iload_n hx hb dX5_listed_50 rfl (lv_at hl 2 rfl) ?_
        refine lv_icmp_ne (tgt := 56) hx hb dX5_listed_51 (by decide) (fun c51 => ?_) (fun c51 => ?_)
        · have hn : ¬ (isL I r k ∧ nI (ahN I J r k 5) = pl) := fun z => c51 z.2
          refine lv_iinc (v := nI (k + 1)) (lv' := [(3, .int (nI (k + 1))), (1, .int (nI (r))), (2, .int (pl)), (0, .ref (ad 102))]) hx hb dX5_listed_56 hl (k := 0) rfl (wn_inc rfl) (by decide) rfl (fun ls hl => ?_)
          refine lv_goto (tgt := 30) hx hb dX5_listed_59 (by decide) ?_
          exact ih (k + 1) (by omega) (hq.trans (by rw [liF, if_neg hn])) H locs hP hS ls (lv_cong (l := [(3, .int (nI (k + 1))), (1, .int (nI (r))), (2, .int (pl)), (0, .ref (ad 102))]) (l' := [(3, .int (nI ((k + 1)))), (1, .int (nI (r))), (2, .int (pl)), (0, .ref (ad 102))]) (lv_sub hl [0, 1, 2, 3] rfl) (by subst_vars; rfl))
        · have hy : isL I r k ∧ nI (ahN I J r k 5) = pl := ⟨hl41, c51⟩
          exact kr k (by omega) (hq.trans (by unfold liF; rw [if_pos hy])) H locs hP hS ls (lv_sub hl [0, 3] rfl)

set_option maxHeartbeats 4000000 in
set_option maxRecDepth 100000 in
/-- X5_listed -/
theorem c_X5_listed_ok (l : Launch) (nW : Nat) (D : va_G) (cA : Nat → ClassId) (ad : Nat → Nat) (hi : inj nW ad) (hNW : 114 ≤ nW) (I : SI) (J : SJ) (X : SX) (sz : Nat) (r : Nat) (pl : Int32) (hr4 : r < 4) (hp : inF (nI r) 0 3 = 1) (hpl : ¬ pl < 0) : Met l yX5_listed wsX5_listed ({ frames := 2, cells := 0, slots := 0, locals := 50 }) (va_Pc [.ref (ad 102), .int (nI (r)), .int (pl)] (wPre nW D cA ad I J X sz)) (qI nW D cA ad sz (liF (st2 I 102 14 0) J r pl 5 0) (st2 I 102 14 0) J X) 0 0 (fr nW ad sz) := by
  refine Met.ofW (cc := cX5_listed) (maxL := 4) (ret := (some .int)) (by decide) rfl ?_
  intro p e s m args below meth c s₁ B hml hv
  obtain ⟨rfl, rfl, hP, hK⟩ := hv
  have hx := B.exec
  have hb := B.bytes
  have hr := B.returns
  have hts := atoms_spec (ws := wsX5_listed) B.pre
  have hown : s.vm.findClass RX5 = some m.cls := findClass_of_methodNamed B.named
  have hlocks := B.notSynchronized
  have hS : va_S (fr nW ad s.heap.size) s.heap s.heap [] := va_S.rf
  have hA : ∀ k, k < nW → fr nW ad s.heap.size (ad k) := fr_ad
  have hl := lv_entry ([.ref (ad 102), .int (nI (r)), .int (pl)]) (n := 4) (Nat.le_of_ble_eq_true rfl)
  rw [lg_entry_eq]
  generalize (lg_sl ([.ref (ad 102), .int (nI (r)), .int (pl)]) ++ List.replicate (4 - (lg_sl ([.ref (ad 102), .int (nI (r)), .int (pl)])).length) Slot.unset).toArray = ls at hl ⊢
  have hl : lv_has ls 4 [(0, .ref (ad 102)), (1, .int (nI (r))), (2, .int (pl))] := hl
  have hS0 := hS
  suffices K : ∀ (H : Heap) (locs : List Loc), WP nW D cA ad I J X H → va_S (fr nW ad s.heap.size) s.heap H locs → W p l e (headSpec wsX5_listed ({ frames := 2, cells := 0, slots := 0, locals := 50 })).room s m ([.ref (ad 102), .int (nI (r)), .int (pl)] : List Value).toArray below meth c H locs 0 0 (MQ below (qI nW D cA ad s.heap.size (liF (st2 I 102 14 0) J r pl 5 0) (st2 I 102 14 0) J X) ([.ref (ad 102), .int (nI (r)), .int (pl)] : List Value).toArray s 0 0 (fr nW ad s.heap.size)) (F0 m 0 ls []) from K _ _ hP hS
  clear hP hS hS0
  intro H locs hP hS
  refine lv_aload_n hx hb dX5_listed_0 rfl (lv_at hl 0 rfl) ?_
  refine lv_aload_n hx hb dX5_listed_1 rfl (lv_at hl 0 rfl) ?_
  refine lv_iload_n hx hb dX5_listed_2 rfl (lv_at hl 1 rfl) ?_
  refine lv_iconst (v := 0) hx hb dX5_listed_3 (by decide) ?_
  refine lv_iconst (v := 3) hx hb dX5_listed_4 (by decide) ?_
  refine w_calli (va_runV (As := [.int (nI (r)), .int (0), .int (3)]) (rest := [.ref (ad 102)]) ⟨hx, hb, hml, hown, hts⟩ (c_X5_in l nW D cA ad hi hNW I J X H.size (nI (r)) 0 3) (cwV 3 hts gX5_listed_X5_in rfl rfl rfl (by decide +kernel) ⟨Nat.le_of_ble_eq_true rfl, Nat.le_of_ble_eq_true rfl⟩) (w_preV hK hP 102 (by omega) ⟨rfl, rfl⟩ rfl) rfl rfl hl.1 rfl (lv_room (Nat.le_of_ble_eq_true rfl)) dX5_listed_5 ⟨Nat.le_of_ble_eq_true rfl, Nat.le_of_ble_eq_true rfl⟩) hS (fun H locs hP hS => ?_)
  refine w_topN (a := 1) hp ?_
  refine lv_if_eq (tgt := 19) hx hb dX5_listed_8 (by decide) (fun c8 => ?_) (fun c8 => ?_)
  · have qc8 : 1 = 0 := (wn_eq (a := 1) (b := 0) rfl rfl (by omega) (by omega)).mp c8
    exact absurd qc8 (by omega)
  · have qc8 : ¬ 1 = 0 := fun z => c8 ((wn_eq (a := 1) (b := 0) rfl rfl (by omega) (by omega)).mpr z)
    refine lv_iload_n hx hb dX5_listed_11 rfl (lv_at hl 2 rfl) ?_
    refine lv_if_lt (tgt := 19) hx hb dX5_listed_12 (by decide) (fun c12 => ?_) (fun c12 => ?_)
    · exact absurd c12 hpl
    · refine lv_iconst (v := 0) hx hb dX5_listed_15 (by decide) ?_
      refine lv_goto (tgt := 20) hx hb dX5_listed_16 (by decide) ?_
      refine w_calli (va_runV (As := [.int (0)]) (rest := []) ⟨hx, hb, hml, hown, hts⟩ (c_X5_fails l nW D cA ad hi hNW I J X H.size 0) (cwV 1 hts gX5_listed_X5_fails rfl rfl rfl (by decide +kernel) ⟨Nat.le_of_ble_eq_true rfl, Nat.le_of_ble_eq_true rfl⟩) (w_preV hK hP 102 (by omega) ⟨rfl, rfl⟩ rfl) rfl rfl hl.1 rfl (lv_room (Nat.le_of_ble_eq_true rfl)) dX5_listed_20 ⟨Nat.le_of_ble_eq_true rfl, Nat.le_of_ble_eq_true rfl⟩) hS (fun H locs hP hS => ?_)
      refine w_topN (a := 0) (by decide) ?_
      refine lv_if_eq (tgt := 28) hx hb dX5_listed_23 (by decide) (fun c23 => ?_) (fun c23 => ?_)
      · have qc23 : 0 = 0 := (wn_eq (a := 0) (b := 0) rfl rfl (by omega) (by omega)).mp c23
        refine lv_iconst (v := 0) hx hb dX5_listed_28 (by decide) ?_
        refine lv_istore_n (lv' := [(3, .int (0)), (0, .ref (ad 102)), (1, .int (nI (r))), (2, .int (pl))]) hx hb dX5_listed_29 rfl hl (by decide) rfl (fun ls hl => ?_)
        refine lp_X5_listed hi hNW hx hb hml hown hts hK (st2 I 102 14 0) J X r pl hr4 (fun h62 H locs hP hS ls hl => ?_) (fun k k5 h54 H locs hP hS ls hl => ?_) (5) (0) (by omega) rfl H locs (w_cong (I1 := (st2 I 102 14 0)) (J1 := J) (X1 := X) hP ⟨(by subst_vars; rfl), rfl, rfl⟩) hS ls (lv_cong (l := [(3, .int (0)), (1, .int (nI (r))), (2, .int (pl)), (0, .ref (ad 102))]) (l' := [(3, .int (nI (0))), (1, .int (nI (r))), (2, .int (pl)), (0, .ref (ad 102))]) (lv_sub hl [0, 2, 3, 1] rfl) (by subst_vars; rfl))
        · refine lv_iconst (v := (-1)) hx hb dX5_listed_62 (by decide) ?_
          exact w_iret hx hb hr hlocks hK hP hS ⟨h62.symm, by subst_vars; rfl, by subst_vars; rfl, by subst_vars; rfl⟩ dX5_listed_63
        · refine lv_iload_n hx hb dX5_listed_54 rfl (lv_at hl 0 rfl) ?_
          exact w_iret hx hb hr hlocks hK hP hS ⟨h54.symm, by subst_vars; rfl, by subst_vars; rfl, by subst_vars; rfl⟩ dX5_listed_55
      · have qc23 : ¬ 0 = 0 := fun z => c23 ((wn_eq (a := 0) (b := 0) rfl rfl (by omega) (by omega)).mpr z)
        exact absurd qc23 (by omega)

set_option maxHeartbeats 4000000 in
set_option maxRecDepth 100000 in
/-- X5_listed -/
theorem c_X5_listed_f1 (l : Launch) (nW : Nat) (D : va_G) (cA : Nat → ClassId) (ad : Nat → Nat) (hi : inj nW ad) (hNW : 114 ≤ nW) (I : SI) (J : SJ) (X : SX) (sz : Nat) (r pl : Int32) (hp : inF r 0 3 = 0) : Met l yX5_listed wsX5_listed ({ frames := 2, cells := 0, slots := 0, locals := 50 }) (va_Pc [.ref (ad 102), .int (r), .int (pl)] (wPre nW D cA ad I J X sz)) (qI nW D cA ad sz (-1) (st2 I 102 14 1) J X) 0 0 (fr nW ad sz) := by
  refine Met.ofW (cc := cX5_listed) (maxL := 4) (ret := (some .int)) (by decide) rfl ?_
  intro p e s m args below meth c s₁ B hml hv
  obtain ⟨rfl, rfl, hP, hK⟩ := hv
  have hx := B.exec
  have hb := B.bytes
  have hr := B.returns
  have hts := atoms_spec (ws := wsX5_listed) B.pre
  have hown : s.vm.findClass RX5 = some m.cls := findClass_of_methodNamed B.named
  have hlocks := B.notSynchronized
  have hS : va_S (fr nW ad s.heap.size) s.heap s.heap [] := va_S.rf
  have hA : ∀ k, k < nW → fr nW ad s.heap.size (ad k) := fr_ad
  have hl := lv_entry ([.ref (ad 102), .int (r), .int (pl)]) (n := 4) (Nat.le_of_ble_eq_true rfl)
  rw [lg_entry_eq]
  generalize (lg_sl ([.ref (ad 102), .int (r), .int (pl)]) ++ List.replicate (4 - (lg_sl ([.ref (ad 102), .int (r), .int (pl)])).length) Slot.unset).toArray = ls at hl ⊢
  have hl : lv_has ls 4 [(0, .ref (ad 102)), (1, .int (r)), (2, .int (pl))] := hl
  have hS0 := hS
  suffices K : ∀ (H : Heap) (locs : List Loc), WP nW D cA ad I J X H → va_S (fr nW ad s.heap.size) s.heap H locs → W p l e (headSpec wsX5_listed ({ frames := 2, cells := 0, slots := 0, locals := 50 })).room s m ([.ref (ad 102), .int (r), .int (pl)] : List Value).toArray below meth c H locs 0 0 (MQ below (qI nW D cA ad s.heap.size (-1) (st2 I 102 14 1) J X) ([.ref (ad 102), .int (r), .int (pl)] : List Value).toArray s 0 0 (fr nW ad s.heap.size)) (F0 m 0 ls []) from K _ _ hP hS
  clear hP hS hS0
  intro H locs hP hS
  refine lv_aload_n hx hb dX5_listed_0 rfl (lv_at hl 0 rfl) ?_
  refine lv_aload_n hx hb dX5_listed_1 rfl (lv_at hl 0 rfl) ?_
  refine lv_iload_n hx hb dX5_listed_2 rfl (lv_at hl 1 rfl) ?_
  refine lv_iconst (v := 0) hx hb dX5_listed_3 (by decide) ?_
  refine lv_iconst (v := 3) hx hb dX5_listed_4 (by decide) ?_
  refine w_calli (va_runV (As := [.int (r), .int (0), .int (3)]) (rest := [.ref (ad 102)]) ⟨hx, hb, hml, hown, hts⟩ (c_X5_in l nW D cA ad hi hNW I J X H.size r 0 3) (cwV 3 hts gX5_listed_X5_in rfl rfl rfl (by decide +kernel) ⟨Nat.le_of_ble_eq_true rfl, Nat.le_of_ble_eq_true rfl⟩) (w_preV hK hP 102 (by omega) ⟨rfl, rfl⟩ rfl) rfl rfl hl.1 rfl (lv_room (Nat.le_of_ble_eq_true rfl)) dX5_listed_5 ⟨Nat.le_of_ble_eq_true rfl, Nat.le_of_ble_eq_true rfl⟩) hS (fun H locs hP hS => ?_)
  refine w_topN (a := 0) hp ?_
  refine lv_if_eq (tgt := 19) hx hb dX5_listed_8 (by decide) (fun c8 => ?_) (fun c8 => ?_)
  · have qc8 : 0 = 0 := (wn_eq (a := 0) (b := 0) rfl rfl (by omega) (by omega)).mp c8
    refine lv_iconst (v := 1) hx hb dX5_listed_19 (by decide) ?_
    refine w_calli (va_runV (As := [.int (1)]) (rest := []) ⟨hx, hb, hml, hown, hts⟩ (c_X5_fails l nW D cA ad hi hNW I J X H.size 1) (cwV 1 hts gX5_listed_X5_fails rfl rfl rfl (by decide +kernel) ⟨Nat.le_of_ble_eq_true rfl, Nat.le_of_ble_eq_true rfl⟩) (w_preV hK hP 102 (by omega) ⟨rfl, rfl⟩ rfl) rfl rfl hl.1 rfl (lv_room (Nat.le_of_ble_eq_true rfl)) dX5_listed_20 ⟨Nat.le_of_ble_eq_true rfl, Nat.le_of_ble_eq_true rfl⟩) hS (fun H locs hP hS => ?_)
    refine w_topN (a := 1) (by decide) ?_
    refine lv_if_eq (tgt := 28) hx hb dX5_listed_23 (by decide) (fun c23 => ?_) (fun c23 => ?_)
    · have qc23 : 1 = 0 := (wn_eq (a := 1) (b := 0) rfl rfl (by omega) (by omega)).mp c23
      exact absurd qc23 (by omega)
    · have qc23 : ¬ 1 = 0 := fun z => c23 ((wn_eq (a := 1) (b := 0) rfl rfl (by omega) (by omega)).mpr z)
      refine lv_iconst (v := (-1)) hx hb dX5_listed_26 (by decide) ?_
      exact w_iret hx hb hr hlocks hK hP hS ⟨by subst_vars; rfl, by subst_vars; rfl, by subst_vars; rfl, by subst_vars; rfl⟩ dX5_listed_27
  · have qc8 : ¬ 0 = 0 := fun z => c8 ((wn_eq (a := 0) (b := 0) rfl rfl (by omega) (by omega)).mpr z)
    exact absurd qc8 (by omega)

set_option maxHeartbeats 4000000 in
set_option maxRecDepth 100000 in
/-- X5_listed -/
theorem c_X5_listed_f2 (l : Launch) (nW : Nat) (D : va_G) (cA : Nat → ClassId) (ad : Nat → Nat) (hi : inj nW ad) (hNW : 114 ≤ nW) (I : SI) (J : SJ) (X : SX) (sz : Nat) (r pl : Int32) (hp : inF r 0 3 = 1) (hpl : pl < 0) : Met l yX5_listed wsX5_listed ({ frames := 2, cells := 0, slots := 0, locals := 50 }) (va_Pc [.ref (ad 102), .int (r), .int (pl)] (wPre nW D cA ad I J X sz)) (qI nW D cA ad sz (-1) (st2 I 102 14 1) J X) 0 0 (fr nW ad sz) := by
  refine Met.ofW (cc := cX5_listed) (maxL := 4) (ret := (some .int)) (by decide) rfl ?_
  intro p e s m args below meth c s₁ B hml hv
  obtain ⟨rfl, rfl, hP, hK⟩ := hv
  have hx := B.exec
  have hb := B.bytes
  have hr := B.returns
  have hts := atoms_spec (ws := wsX5_listed) B.pre
  have hown : s.vm.findClass RX5 = some m.cls := findClass_of_methodNamed B.named
  have hlocks := B.notSynchronized
  have hS : va_S (fr nW ad s.heap.size) s.heap s.heap [] := va_S.rf
  have hA : ∀ k, k < nW → fr nW ad s.heap.size (ad k) := fr_ad
  have hl := lv_entry ([.ref (ad 102), .int (r), .int (pl)]) (n := 4) (Nat.le_of_ble_eq_true rfl)
  rw [lg_entry_eq]
  generalize (lg_sl ([.ref (ad 102), .int (r), .int (pl)]) ++ List.replicate (4 - (lg_sl ([.ref (ad 102), .int (r), .int (pl)])).length) Slot.unset).toArray = ls at hl ⊢
  have hl : lv_has ls 4 [(0, .ref (ad 102)), (1, .int (r)), (2, .int (pl))] := hl
  have hS0 := hS
  suffices K : ∀ (H : Heap) (locs : List Loc), WP nW D cA ad I J X H → va_S (fr nW ad s.heap.size) s.heap H locs → W p l e (headSpec wsX5_listed ({ frames := 2, cells := 0, slots := 0, locals := 50 })).room s m ([.ref (ad 102), .int (r), .int (pl)] : List Value).toArray below meth c H locs 0 0 (MQ below (qI nW D cA ad s.heap.size (-1) (st2 I 102 14 1) J X) ([.ref (ad 102), .int (r), .int (pl)] : List Value).toArray s 0 0 (fr nW ad s.heap.size)) (F0 m 0 ls []) from K _ _ hP hS
  clear hP hS hS0
  intro H locs hP hS
  refine lv_aload_n hx hb dX5_listed_0 rfl (lv_at hl 0 rfl) ?_
  refine lv_aload_n hx hb dX5_listed_1 rfl (lv_at hl 0 rfl) ?_
  refine lv_iload_n hx hb dX5_listed_2 rfl (lv_at hl 1 rfl) ?_
  refine lv_iconst (v := 0) hx hb dX5_listed_3 (by decide) ?_
  refine lv_iconst (v := 3) hx hb dX5_listed_4 (by decide) ?_
  refine w_calli (va_runV (As := [.int (r), .int (0), .int (3)]) (rest := [.ref (ad 102)]) ⟨hx, hb, hml, hown, hts⟩ (c_X5_in l nW D cA ad hi hNW I J X H.size r 0 3) (cwV 3 hts gX5_listed_X5_in rfl rfl rfl (by decide +kernel) ⟨Nat.le_of_ble_eq_true rfl, Nat.le_of_ble_eq_true rfl⟩) (w_preV hK hP 102 (by omega) ⟨rfl, rfl⟩ rfl) rfl rfl hl.1 rfl (lv_room (Nat.le_of_ble_eq_true rfl)) dX5_listed_5 ⟨Nat.le_of_ble_eq_true rfl, Nat.le_of_ble_eq_true rfl⟩) hS (fun H locs hP hS => ?_)
  refine w_topN (a := 1) hp ?_
  refine lv_if_eq (tgt := 19) hx hb dX5_listed_8 (by decide) (fun c8 => ?_) (fun c8 => ?_)
  · have qc8 : 1 = 0 := (wn_eq (a := 1) (b := 0) rfl rfl (by omega) (by omega)).mp c8
    exact absurd qc8 (by omega)
  · have qc8 : ¬ 1 = 0 := fun z => c8 ((wn_eq (a := 1) (b := 0) rfl rfl (by omega) (by omega)).mpr z)
    refine lv_iload_n hx hb dX5_listed_11 rfl (lv_at hl 2 rfl) ?_
    refine lv_if_lt (tgt := 19) hx hb dX5_listed_12 (by decide) (fun c12 => ?_) (fun c12 => ?_)
    · refine lv_iconst (v := 1) hx hb dX5_listed_19 (by decide) ?_
      refine w_calli (va_runV (As := [.int (1)]) (rest := []) ⟨hx, hb, hml, hown, hts⟩ (c_X5_fails l nW D cA ad hi hNW I J X H.size 1) (cwV 1 hts gX5_listed_X5_fails rfl rfl rfl (by decide +kernel) ⟨Nat.le_of_ble_eq_true rfl, Nat.le_of_ble_eq_true rfl⟩) (w_preV hK hP 102 (by omega) ⟨rfl, rfl⟩ rfl) rfl rfl hl.1 rfl (lv_room (Nat.le_of_ble_eq_true rfl)) dX5_listed_20 ⟨Nat.le_of_ble_eq_true rfl, Nat.le_of_ble_eq_true rfl⟩) hS (fun H locs hP hS => ?_)
      refine w_topN (a := 1) (by decide) ?_
      refine lv_if_eq (tgt := 28) hx hb dX5_listed_23 (by decide) (fun c23 => ?_) (fun c23 => ?_)
      · have qc23 : 1 = 0 := (wn_eq (a := 1) (b := 0) rfl rfl (by omega) (by omega)).mp c23
        exact absurd qc23 (by omega)
      · have qc23 : ¬ 1 = 0 := fun z => c23 ((wn_eq (a := 1) (b := 0) rfl rfl (by omega) (by omega)).mpr z)
        refine lv_iconst (v := (-1)) hx hb dX5_listed_26 (by decide) ?_
        exact w_iret hx hb hr hlocks hK hP hS ⟨by subst_vars; rfl, by subst_vars; rfl, by subst_vars; rfl, by subst_vars; rfl⟩ dX5_listed_27
    · exact absurd hpl c12

/-- what is walked of a node isn't 0 where a neighbour is -/
def AllOK (I : SI) : Prop := ∀ n q, n < 9 → q < 9 → 0 < loM I n q → ¬ allM I n = 0
theorem loM_far {I : SI} {a f : Nat} {x : Int32} (h1 : a ≠ 103) (h2 : a ≠ 104) (n m : Nat) : loM (st2 I a f x) n m = loM I n m := by
  unfold loM loR
  rw [st2_k _ _ (Ne.symm h2), st2_k _ _ (Ne.symm h1)]
theorem alM_far {I : SI} {a f : Nat} {x : Int32} (h1 : a ≠ 103) (h2 : a ≠ 104) (n : Nat) : ∀ m, alM (st2 I a f x) n m = alM I n m
  | 0 => rfl
  | m + 1 => by unfold alM; rw [alM_far h1 h2 n m, loM_far h1 h2]
theorem AllOK_far {I : SI} {a f : Nat} {x : Int32} (h1 : a ≠ 103) (h2 : a ≠ 104) (h : AllOK I) : AllOK (st2 I a f x) := fun n q hn hq => by
  unfold allM
  rw [alM_far h1 h2, loM_far h1 h2]
  exact h n q hn hq
def isW (I : SI) (r k j o : Nat) : Prop := j ≠ k ∧ o ≠ r ∧ 0 < loM I r (4 + j) ∧ 0 < loM I o (4 + j) ∧ 0 < loM I o (4 + k)
def wyC (I : SI) (r k j o : Nat) : Int64 := 1000000 * (loM I r (4 + j)).toInt64 / (allM I r).toInt64 * (loM I o (4 + j)).toInt64 / (allM I (4 + j)).toInt64 * (loM I o (4 + k)).toInt64 / (allM I o).toInt64
def wyPut (I : SI) (r k j o mny : Nat) : SI := st2 (st2 (st2 I 111 mny (wyC I r k j o).toInt32) 112 mny (nI j)) 113 mny (nI o)
theorem AllOK_put {I : SI} {r k j o mny : Nat} (h : AllOK I) : AllOK (wyPut I r k j o mny) := AllOK_far (by decide) (by decide) (AllOK_far (by decide) (by decide) (AllOK_far (by decide) (by decide) h))
noncomputable def wyIn (r k j : Nat) (s : SI × Nat) : Nat → SI × Nat
  | 0 => s
  | o + 1 => @ite (SI × Nat) (isW (wyIn r k j s o).1 r k j o) (Classical.propDecidable _) (wyPut (wyIn r k j s o).1 r k j o (wyIn r k j s o).2, (wyIn r k j s o).2 + 1) (wyIn r k j s o)
noncomputable def wyOut (I : SI) (r k : Nat) : Nat → SI × Nat
  | 0 => (I, 0)
  | j + 1 => wyIn r k j (wyOut I r k j) 4
def bel (k j : Nat) : Nat := if k < j then j - 1 else j
theorem wyIn_le {r k j : Nat} {s : SI × Nat} (hr : r < 4) : ∀ o, (wyIn r k j s o).2 ≤ s.2 + (if j = k then 0 else bel r o)
  | 0 => by unfold wyIn bel; split <;> simp
  | o + 1 => by
    have ih := wyIn_le (r := r) (k := k) (j := j) (s := s) hr o
    unfold wyIn
    by_cases h : isW (wyIn r k j s o).1 r k j o
    · rw [if_pos h]
      have h1 := h.1
      have h2 := h.2.1
      show (wyIn r k j s o).2 + 1 ≤ _
      rw [if_neg h1] at ih ⊢
      unfold bel at ih ⊢
      split at ih <;> split <;> omega
    · rw [if_neg h]
      refine Nat.le_trans ih ?_
      split
      · exact Nat.le_refl _
      · unfold bel; split <;> split <;> omega
theorem wyOut_le {I : SI} {r k : Nat} (hr : r < 4) : ∀ j, (wyOut I r k j).2 ≤ 3 * bel k j
  | 0 => by unfold wyOut; exact Nat.zero_le _
  | j + 1 => by
    have ih := wyOut_le (I := I) (r := r) (k := k) hr j
    have h := wyIn_le (r := r) (k := k) (j := j) (s := wyOut I r k j) hr 4
    unfold wyOut
    refine Nat.le_trans h ?_
    have b4 : bel r 4 = 3 := by unfold bel; rw [if_pos hr]
    rw [b4]
    unfold bel at ih ⊢
    split <;> split at ih <;> split <;> omega
/-- a place for one more -/
theorem wy_room {I : SI} {r k j o : Nat} (hr : r < 4) (hk : k < 5) (hj : j < 5) (ho : o < 4) (h1 : j ≠ k) (h2 : o ≠ r) : (wyIn r k j (wyOut I r k j) o).2 < 12 := by
  have a := wyOut_le (I := I) (r := r) (k := k) hr j
  have b := wyIn_le (r := r) (k := k) (j := j) (s := wyOut I r k j) hr o
  rw [if_neg h1] at b
  unfold bel at a b
  split at a <;> split at b <;> omega
theorem wy_all {I : SI} {r k : Nat} (hr : r < 4) (hk : k < 5) : (wyOut I r k 5).2 ≤ 12 := by
  have a := wyOut_le (I := I) (r := r) (k := k) hr 5
  unfold bel at a
  rw [if_pos hk] at a
  exact a
theorem wyIn_all {r k j : Nat} {s : SI × Nat} (h : AllOK s.1) : ∀ o, AllOK (wyIn r k j s o).1
  | 0 => h
  | o + 1 => by
    unfold wyIn
    by_cases q : isW (wyIn r k j s o).1 r k j o
    · rw [if_pos q]; exact AllOK_put (wyIn_all h o)
    · rw [if_neg q]; exact wyIn_all h o
theorem wyOut_all {I : SI} {r k : Nat} (h : AllOK I) : ∀ j, AllOK (wyOut I r k j).1
  | 0 => h
  | j + 1 => wyIn_all (wyOut_all h j) 4

theorem loM_comm (I : SI) (n m : Nat) : loM I n m = loM I m n := by
  unfold loM
  by_cases h : n < m
  · rw [if_pos h, if_neg (by omega)]
  · by_cases h2 : m < n
    · rw [if_neg h, if_pos h2]
    · have : n = m := by omega
      subst this
      rfl

theorem inX5_ways_X5 : ∀ w ∈ wsX50, w ∈ wsX5_ways := by decide +kernel
set_option maxHeartbeats 4000000 in
set_option maxRecDepth 100000 in
theorem lp_X5_ways_B {p : Program} {l : Launch} {e : Env} {s : State} {m : MethodId} {args : Array Value} {below : List Frame} {meth : Method} {c : Code} {Q : State → Prop} {nW : Nat} {D : va_G} {cA : Nat → ClassId} {ad : Nat → Nat} (hi : inj nW ad) (hNW : 114 ≤ nW) (hx : p.tables.exec = Jvm.exec) (hb : c.code = cX5_ways) (hml : c.maxLocals = 9) (hown : s.vm.findClass RX5 = some m.cls) (hts : ∀ w ∈ wsX5_ways, w.before args s = true) (hK : WK D cA s) (I : SI) (J : SJ) (X : SX) (r k j : Nat) (hr4 : r < 4) (hk5 : k < 5) (hj5 : j < 5) (hA5 : AllOK I) (kx :  ∀ (H : Heap) (locs : List Loc), WP nW D cA ad ((wyIn r k j (wyOut I r k j) (4)).1) J X H → va_S (fr nW ad s.heap.size) s.heap H locs → ∀ (ls : Array Slot), lv_has ls 9 [(3, .int (nI ((wyIn r k j (wyOut I r k j) (4)).2))), (4, .int (nI (j))), (1, .int (nI (r))), (2, .int (nI (k))), (0, .ref (ad 102))] → W p l e (headSpec wsX5_ways ({ frames := 2, cells := 0, slots := 0, locals := 47 })).room s m args below meth c H locs 0 0 Q (F0 m 183 ls [])) : ∀ (t o : Nat), o + t = 4 →  ∀ (H : Heap) (locs : List Loc), WP nW D cA ad ((wyIn r k j (wyOut I r k j) (o)).1) J X H → va_S (fr nW ad s.heap.size) s.heap H locs → ∀ (ls : Array Slot), lv_has ls 9 [(5, .int (nI (o))), (3, .int (nI ((wyIn r k j (wyOut I r k j) (o)).2))), (4, .int (nI (j))), (1, .int (nI (r))), (2, .int (nI (k))), (0, .ref (ad 102))] → W p l e (headSpec wsX5_ways ({ frames := 2, cells := 0, slots := 0, locals := 47 })).room s m args below meth c H locs 0 0 Q (F0 m 14 ls []) := by
  have hA : ∀ k, k < nW → fr nW ad s.heap.size (ad k) := fr_ad
  intro t
  induction t with
  | zero =>
    intro o hj  H locs hP hS ls hl
    obtain rfl : 4 = o := by omega
    refine lv_iload hx hb dX5_ways_14 (lv_at hl 0 rfl) ?_
    refine lv_iconst (v := 4) hx hb dX5_ways_16 (by decide) ?_
    refine lv_icmp_ge (tgt := 183) hx hb dX5_ways_17 (by decide) (fun cc => ?_) (fun cc => ?_)
    · have qcc : 4 ≤ 4 := (wn_le (a := 4) (b := 4) rfl rfl (by omega) (by omega)).mp cc
      exact kx  H locs (w_cong (I1 := ((wyIn r k j (wyOut I r k j) (4)).1)) (J1 := J) (X1 := X) hP ⟨(by subst_vars; rfl), rfl, rfl⟩) hS ls (lv_sub hl [1, 2, 3, 4, 5] rfl)
    · have qcc : ¬ 4 ≤ 4 := fun z => cc ((wn_le (a := 4) (b := 4) rfl rfl (by omega) (by omega)).mpr z)
      exact absurd qcc (by omega)
  | succ t ih =>
    intro o hj  H locs hP hS ls hl
    refine lv_iload hx hb dX5_ways_14 (lv_at hl 0 rfl) ?_
    refine lv_iconst (v := 4) hx hb dX5_ways_16 (by decide) ?_
    refine lv_icmp_ge (tgt := 183) hx hb dX5_ways_17 (by decide) (fun cc => ?_) (fun cc => ?_)
    · have qcc : 4 ≤ o := (wn_le (a := 4) (b := o) rfl rfl (by omega) (by omega)).mp cc
      exact absurd qcc (by omega)
    · have qcc : ¬ 4 ≤ o := fun z => cc ((wn_le (a := 4) (b := o) rfl rfl (by omega) (by omega)).mpr z)
      refine lv_iload hx hb dX5_ways_20 (lv_at hl 2 rfl) ?_
      refine lv_iload_n hx hb dX5_ways_22 rfl (lv_at hl 4 rfl) ?_
      refine lv_icmp_eq (tgt := 73) hx hb dX5_ways_23 (by decide) (fun c23 => ?_) (fun c23 => ?_)
      · have qc23 : j = k := (wn_eq (a := j) (b := k) rfl rfl (by omega) (by omega)).mp c23
        have hw : ¬ isW (wyIn r k j (wyOut I r k j) o).1 r k j o := fun z => z.1 qc23
        refine lv_iconst (v := 0) hx hb dX5_ways_73 (by decide) ?_
        refine lv_istore (lv' := [(6, .int (0)), (5, .int (nI (o))), (3, .int (nI ((wyIn r k j (wyOut I r k j) (o)).2))), (4, .int (nI (j))), (1, .int (nI (r))), (2, .int (nI (k))), (0, .ref (ad 102))]) hx hb dX5_ways_74 hl (by decide) rfl (fun ls hl => ?_)
        refine lv_iload hx hb dX5_ways_76 (lv_at hl 0 rfl) ?_
        refine lv_if_eq (tgt := 177) hx hb dX5_ways_78 (by decide) (fun c78 => ?_) (fun c78 => ?_)
        · have qc78 : 0 = 0 := (wn_eq (a := 0) (b := 0) rfl rfl (by omega) (by omega)).mp c78
          refine lv_iinc (v := nI (o + 1)) (lv' := [(5, .int (nI (o + 1))), (6, .int (0)), (3, .int (nI ((wyIn r k j (wyOut I r k j) (o)).2))), (4, .int (nI (j))), (1, .int (nI (r))), (2, .int (nI (k))), (0, .ref (ad 102))]) hx hb dX5_ways_177 hl (k := 1) rfl (wn_inc rfl) (by decide) rfl (fun ls hl => ?_)
          refine lv_goto (tgt := 14) hx hb dX5_ways_180 (by decide) ?_
          exact ih (o + 1) (by omega)  H locs (w_cong (I1 := ((wyIn r k j (wyOut I r k j) ((o + 1))).1)) (J1 := J) (X1 := X) hP ⟨(by subst_vars; first | (simp only [wyIn, if_neg hw]; done) | (simp only [wyIn, if_pos hw]; try rfl)), rfl, rfl⟩) hS ls (lv_cong (l := [(5, .int (nI (o + 1))), (3, .int (nI ((wyIn r k j (wyOut I r k j) (o)).2))), (4, .int (nI (j))), (1, .int (nI (r))), (2, .int (nI (k))), (0, .ref (ad 102))]) (l' := [(5, .int (nI ((o + 1)))), (3, .int (nI ((wyIn r k j (wyOut I r k j) ((o + 1))).2))), (4, .int (nI (j))), (1, .int (nI (r))), (2, .int (nI (k))), (0, .ref (ad 102))]) (lv_sub hl [0, 2, 3, 4, 5, 6] rfl) (by subst_vars; first | (simp only [wyIn, if_neg hw]; done) | (simp only [wyIn, if_pos hw]; try rfl)))
        · have qc78 : ¬ 0 = 0 := fun z => c78 ((wn_eq (a := 0) (b := 0) rfl rfl (by omega) (by omega)).mpr z)
          exact absurd qc78 (by omega)
      · have qc23 : ¬ j = k := fun z => c23 ((wn_eq (a := j) (b := k) rfl rfl (by omega) (by omega)).mpr z)
        refine lv_iload hx hb dX5_ways_26 (lv_at hl 0 rfl) ?_
        refine lv_iload_n hx hb dX5_ways_28 rfl (lv_at hl 3 rfl) ?_
        refine lv_icmp_eq (tgt := 73) hx hb dX5_ways_29 (by decide) (fun c29 => ?_) (fun c29 => ?_)
        · have qc29 : o = r := (wn_eq (a := o) (b := r) rfl rfl (by omega) (by omega)).mp c29
          have hw : ¬ isW (wyIn r k j (wyOut I r k j) o).1 r k j o := fun z => z.2.1 qc29
          refine lv_iconst (v := 0) hx hb dX5_ways_73 (by decide) ?_
          refine lv_istore (lv' := [(6, .int (0)), (5, .int (nI (o))), (3, .int (nI ((wyIn r k j (wyOut I r k j) (o)).2))), (4, .int (nI (j))), (1, .int (nI (r))), (2, .int (nI (k))), (0, .ref (ad 102))]) hx hb dX5_ways_74 hl (by decide) rfl (fun ls hl => ?_)
          refine lv_iload hx hb dX5_ways_76 (lv_at hl 0 rfl) ?_
          refine lv_if_eq (tgt := 177) hx hb dX5_ways_78 (by decide) (fun c78 => ?_) (fun c78 => ?_)
          · have qc78 : 0 = 0 := (wn_eq (a := 0) (b := 0) rfl rfl (by omega) (by omega)).mp c78
            refine lv_iinc (v := nI (o + 1)) (lv' := [(5, .int (nI (o + 1))), (6, .int (0)), (3, .int (nI ((wyIn r k j (wyOut I r k j) (o)).2))), (4, .int (nI (j))), (1, .int (nI (r))), (2, .int (nI (k))), (0, .ref (ad 102))]) hx hb dX5_ways_177 hl (k := 1) rfl (wn_inc rfl) (by decide) rfl (fun ls hl => ?_)
            refine lv_goto (tgt := 14) hx hb dX5_ways_180 (by decide) ?_
            exact ih (o + 1) (by omega)  H locs (w_cong (I1 := ((wyIn r k j (wyOut I r k j) ((o + 1))).1)) (J1 := J) (X1 := X) hP ⟨(by subst_vars; first | (simp only [wyIn, if_neg hw]; done) | (simp only [wyIn, if_pos hw]; try rfl)), rfl, rfl⟩) hS ls (lv_cong (l := [(5, .int (nI (o + 1))), (3, .int (nI ((wyIn r k j (wyOut I r k j) (o)).2))), (4, .int (nI (j))), (1, .int (nI (r))), (2, .int (nI (k))), (0, .ref (ad 102))]) (l' := [(5, .int (nI ((o + 1)))), (3, .int (nI ((wyIn r k j (wyOut I r k j) ((o + 1))).2))), (4, .int (nI (j))), (1, .int (nI (r))), (2, .int (nI (k))), (0, .ref (ad 102))]) (lv_sub hl [0, 2, 3, 4, 5, 6] rfl) (by subst_vars; first | (simp only [wyIn, if_neg hw]; done) | (simp only [wyIn, if_pos hw]; try rfl)))
          · have qc78 : ¬ 0 = 0 := fun z => c78 ((wn_eq (a := 0) (b := 0) rfl rfl (by omega) (by omega)).mpr z)
            exact absurd qc78 (by omega)
        · have qc29 : ¬ o = r := fun z => c29 ((wn_eq (a := o) (b := r) rfl rfl (by omega) (by omega)).mpr z)
          refine lv_aload_n hx hb dX5_ways_32 rfl (lv_at hl 5 rfl) ?_
          refine lv_iload_n hx hb dX5_ways_33 rfl (lv_at hl 3 rfl) ?_
          refine lv_iconst (v := 4) hx hb dX5_ways_34 (by decide) ?_
          refine lv_iload hx hb dX5_ways_35 (lv_at hl 2 rfl) ?_
          refine w_iaddN (a := 4) (b := j) hx hb rfl rfl dX5_ways_37 ?_
          refine w_calli (va_runV (As := [.int (nI (r)), .int (nI (4 + j))]) (rest := []) ⟨hx, hb, hml, hown, hts⟩ (c_X5_loanOf l nW D cA ad hi hNW ((wyIn r k j (wyOut I r k j) (o)).1) J X H.size r (4 + j) (by omega) (by omega)) (cwV 2 hts gX5_ways_X5_loanOf rfl rfl rfl (by decide +kernel) ⟨Nat.le_of_ble_eq_true rfl, Nat.le_of_ble_eq_true rfl⟩) (w_preV hK hP 102 (by omega) ⟨rfl, rfl⟩ rfl) rfl rfl hl.1 rfl (lv_room (Nat.le_of_ble_eq_true rfl)) dX5_ways_38 ⟨Nat.le_of_ble_eq_true rfl, Nat.le_of_ble_eq_true rfl⟩) hS (fun H locs hP hS => ?_)
          refine lv_if_le (tgt := 73) hx hb dX5_ways_41 (by decide) (fun c41 => ?_) (fun c41 => ?_)
          · have hw : ¬ isW (wyIn r k j (wyOut I r k j) o).1 r k j o := fun z => i32_nlt c41 z.2.2.1
            refine lv_iconst (v := 0) hx hb dX5_ways_73 (by decide) ?_
            refine lv_istore (lv' := [(6, .int (0)), (5, .int (nI (o))), (3, .int (nI ((wyIn r k j (wyOut I r k j) (o)).2))), (4, .int (nI (j))), (1, .int (nI (r))), (2, .int (nI (k))), (0, .ref (ad 102))]) hx hb dX5_ways_74 hl (by decide) rfl (fun ls hl => ?_)
            refine lv_iload hx hb dX5_ways_76 (lv_at hl 0 rfl) ?_
            refine lv_if_eq (tgt := 177) hx hb dX5_ways_78 (by decide) (fun c78 => ?_) (fun c78 => ?_)
            · have qc78 : 0 = 0 := (wn_eq (a := 0) (b := 0) rfl rfl (by omega) (by omega)).mp c78
              refine lv_iinc (v := nI (o + 1)) (lv' := [(5, .int (nI (o + 1))), (6, .int (0)), (3, .int (nI ((wyIn r k j (wyOut I r k j) (o)).2))), (4, .int (nI (j))), (1, .int (nI (r))), (2, .int (nI (k))), (0, .ref (ad 102))]) hx hb dX5_ways_177 hl (k := 1) rfl (wn_inc rfl) (by decide) rfl (fun ls hl => ?_)
              refine lv_goto (tgt := 14) hx hb dX5_ways_180 (by decide) ?_
              exact ih (o + 1) (by omega)  H locs (w_cong (I1 := ((wyIn r k j (wyOut I r k j) ((o + 1))).1)) (J1 := J) (X1 := X) hP ⟨(by subst_vars; first | (simp only [wyIn, if_neg hw]; done) | (simp only [wyIn, if_pos hw]; try rfl)), rfl, rfl⟩) hS ls (lv_cong (l := [(5, .int (nI (o + 1))), (3, .int (nI ((wyIn r k j (wyOut I r k j) (o)).2))), (4, .int (nI (j))), (1, .int (nI (r))), (2, .int (nI (k))), (0, .ref (ad 102))]) (l' := [(5, .int (nI ((o + 1)))), (3, .int (nI ((wyIn r k j (wyOut I r k j) ((o + 1))).2))), (4, .int (nI (j))), (1, .int (nI (r))), (2, .int (nI (k))), (0, .ref (ad 102))]) (lv_sub hl [0, 2, 3, 4, 5, 6] rfl) (by subst_vars; first | (simp only [wyIn, if_neg hw]; done) | (simp only [wyIn, if_pos hw]; try rfl)))
            · have qc78 : ¬ 0 = 0 := fun z => c78 ((wn_eq (a := 0) (b := 0) rfl rfl (by omega) (by omega)).mpr z)
              exact absurd qc78 (by omega)
          · refine lv_aload_n hx hb dX5_ways_44 rfl (lv_at hl 5 rfl) ?_
            refine lv_iload hx hb dX5_ways_45 (lv_at hl 0 rfl) ?_
            refine lv_iconst (v := 4) hx hb dX5_ways_47 (by decide) ?_
            refine lv_iload hx hb dX5_ways_48 (lv_at hl 2 rfl) ?_
            refine w_iaddN (a := 4) (b := j) hx hb rfl rfl dX5_ways_50 ?_
            refine w_calli (va_runV (As := [.int (nI (o)), .int (nI (4 + j))]) (rest := []) ⟨hx, hb, hml, hown, hts⟩ (c_X5_loanOf l nW D cA ad hi hNW ((wyIn r k j (wyOut I r k j) (o)).1) J X H.size o (4 + j) (by omega) (by omega)) (cwV 2 hts gX5_ways_X5_loanOf rfl rfl rfl (by decide +kernel) ⟨Nat.le_of_ble_eq_true rfl, Nat.le_of_ble_eq_true rfl⟩) (w_preV hK hP 102 (by omega) ⟨rfl, rfl⟩ rfl) rfl rfl hl.1 rfl (lv_room (Nat.le_of_ble_eq_true rfl)) dX5_ways_51 ⟨Nat.le_of_ble_eq_true rfl, Nat.le_of_ble_eq_true rfl⟩) hS (fun H locs hP hS => ?_)
            refine lv_if_le (tgt := 73) hx hb dX5_ways_54 (by decide) (fun c54 => ?_) (fun c54 => ?_)
            · have hw : ¬ isW (wyIn r k j (wyOut I r k j) o).1 r k j o := fun z => i32_nlt c54 z.2.2.2.1
              refine lv_iconst (v := 0) hx hb dX5_ways_73 (by decide) ?_
              refine lv_istore (lv' := [(6, .int (0)), (5, .int (nI (o))), (3, .int (nI ((wyIn r k j (wyOut I r k j) (o)).2))), (4, .int (nI (j))), (1, .int (nI (r))), (2, .int (nI (k))), (0, .ref (ad 102))]) hx hb dX5_ways_74 hl (by decide) rfl (fun ls hl => ?_)
              refine lv_iload hx hb dX5_ways_76 (lv_at hl 0 rfl) ?_
              refine lv_if_eq (tgt := 177) hx hb dX5_ways_78 (by decide) (fun c78 => ?_) (fun c78 => ?_)
              · have qc78 : 0 = 0 := (wn_eq (a := 0) (b := 0) rfl rfl (by omega) (by omega)).mp c78
                refine lv_iinc (v := nI (o + 1)) (lv' := [(5, .int (nI (o + 1))), (6, .int (0)), (3, .int (nI ((wyIn r k j (wyOut I r k j) (o)).2))), (4, .int (nI (j))), (1, .int (nI (r))), (2, .int (nI (k))), (0, .ref (ad 102))]) hx hb dX5_ways_177 hl (k := 1) rfl (wn_inc rfl) (by decide) rfl (fun ls hl => ?_)
                refine lv_goto (tgt := 14) hx hb dX5_ways_180 (by decide) ?_
                exact ih (o + 1) (by omega)  H locs (w_cong (I1 := ((wyIn r k j (wyOut I r k j) ((o + 1))).1)) (J1 := J) (X1 := X) hP ⟨(by subst_vars; first | (simp only [wyIn, if_neg hw]; done) | (simp only [wyIn, if_pos hw]; try rfl)), rfl, rfl⟩) hS ls (lv_cong (l := [(5, .int (nI (o + 1))), (3, .int (nI ((wyIn r k j (wyOut I r k j) (o)).2))), (4, .int (nI (j))), (1, .int (nI (r))), (2, .int (nI (k))), (0, .ref (ad 102))]) (l' := [(5, .int (nI ((o + 1)))), (3, .int (nI ((wyIn r k j (wyOut I r k j) ((o + 1))).2))), (4, .int (nI (j))), (1, .int (nI (r))), (2, .int (nI (k))), (0, .ref (ad 102))]) (lv_sub hl [0, 2, 3, 4, 5, 6] rfl) (by subst_vars; first | (simp only [wyIn, if_neg hw]; done) | (simp only [wyIn, if_pos hw]; try rfl)))
              · have qc78 : ¬ 0 = 0 := fun z => c78 ((wn_eq (a := 0) (b := 0) rfl rfl (by omega) (by omega)).mpr z)
                exact absurd qc78 (by omega)
            · refine lv_aload_n hx hb dX5_ways_57 rfl (lv_at hl 5 rfl) ?_
              refine lv_iload hx hb dX5_ways_58 (lv_at hl 0 rfl) ?_
              refine lv_iconst (v := 4) hx hb dX5_ways_60 (by decide) ?_
              refine lv_iload_n hx hb dX5_ways_61 rfl (lv_at hl 4 rfl) ?_
              refine w_iaddN (a := 4) (b := k) hx hb rfl rfl dX5_ways_62 ?_
              refine w_calli (va_runV (As := [.int (nI (o)), .int (nI (4 + k))]) (rest := []) ⟨hx, hb, hml, hown, hts⟩ (c_X5_loanOf l nW D cA ad hi hNW ((wyIn r k j (wyOut I r k j) (o)).1) J X H.size o (4 + k) (by omega) (by omega)) (cwV 2 hts gX5_ways_X5_loanOf rfl rfl rfl (by decide +kernel) ⟨Nat.le_of_ble_eq_true rfl, Nat.le_of_ble_eq_true rfl⟩) (w_preV hK hP 102 (by omega) ⟨rfl, rfl⟩ rfl) rfl rfl hl.1 rfl (lv_room (Nat.le_of_ble_eq_true rfl)) dX5_ways_63 ⟨Nat.le_of_ble_eq_true rfl, Nat.le_of_ble_eq_true rfl⟩) hS (fun H locs hP hS => ?_)
              refine lv_if_le (tgt := 73) hx hb dX5_ways_66 (by decide) (fun c66 => ?_) (fun c66 => ?_)
              · have hw : ¬ isW (wyIn r k j (wyOut I r k j) o).1 r k j o := fun z => i32_nlt c66 z.2.2.2.2
                refine lv_iconst (v := 0) hx hb dX5_ways_73 (by decide) ?_
                refine lv_istore (lv' := [(6, .int (0)), (5, .int (nI (o))), (3, .int (nI ((wyIn r k j (wyOut I r k j) (o)).2))), (4, .int (nI (j))), (1, .int (nI (r))), (2, .int (nI (k))), (0, .ref (ad 102))]) hx hb dX5_ways_74 hl (by decide) rfl (fun ls hl => ?_)
                refine lv_iload hx hb dX5_ways_76 (lv_at hl 0 rfl) ?_
                refine lv_if_eq (tgt := 177) hx hb dX5_ways_78 (by decide) (fun c78 => ?_) (fun c78 => ?_)
                · have qc78 : 0 = 0 := (wn_eq (a := 0) (b := 0) rfl rfl (by omega) (by omega)).mp c78
                  refine lv_iinc (v := nI (o + 1)) (lv' := [(5, .int (nI (o + 1))), (6, .int (0)), (3, .int (nI ((wyIn r k j (wyOut I r k j) (o)).2))), (4, .int (nI (j))), (1, .int (nI (r))), (2, .int (nI (k))), (0, .ref (ad 102))]) hx hb dX5_ways_177 hl (k := 1) rfl (wn_inc rfl) (by decide) rfl (fun ls hl => ?_)
                  refine lv_goto (tgt := 14) hx hb dX5_ways_180 (by decide) ?_
                  exact ih (o + 1) (by omega)  H locs (w_cong (I1 := ((wyIn r k j (wyOut I r k j) ((o + 1))).1)) (J1 := J) (X1 := X) hP ⟨(by subst_vars; first | (simp only [wyIn, if_neg hw]; done) | (simp only [wyIn, if_pos hw]; try rfl)), rfl, rfl⟩) hS ls (lv_cong (l := [(5, .int (nI (o + 1))), (3, .int (nI ((wyIn r k j (wyOut I r k j) (o)).2))), (4, .int (nI (j))), (1, .int (nI (r))), (2, .int (nI (k))), (0, .ref (ad 102))]) (l' := [(5, .int (nI ((o + 1)))), (3, .int (nI ((wyIn r k j (wyOut I r k j) ((o + 1))).2))), (4, .int (nI (j))), (1, .int (nI (r))), (2, .int (nI (k))), (0, .ref (ad 102))]) (lv_sub hl [0, 2, 3, 4, 5, 6] rfl) (by subst_vars; first | (simp only [wyIn, if_neg hw]; done) | (simp only [wyIn, if_pos hw]; try rfl)))
                · have qc78 : ¬ 0 = 0 := fun z => c78 ((wn_eq (a := 0) (b := 0) rfl rfl (by omega) (by omega)).mpr z)
                  exact absurd qc78 (by omega)
              · have hw : isW (wyIn r k j (wyOut I r k j) o).1 r k j o := ⟨qc23, qc29, i32_lt c41, i32_lt c54, i32_lt c66⟩
                have hrm := wy_room (I := I) hr4 hk5 (by omega) (by omega) qc23 qc29
                have hal : AllOK (wyIn r k j (wyOut I r k j) o).1 := wyIn_all (wyOut_all hA5 j) o
                refine lv_iconst (v := 1) hx hb dX5_ways_69 (by decide) ?_
                refine lv_goto (tgt := 74) hx hb dX5_ways_70 (by decide) ?_
                refine lv_istore (lv' := [(6, .int (1)), (5, .int (nI (o))), (3, .int (nI ((wyIn r k j (wyOut I r k j) (o)).2))), (4, .int (nI (j))), (1, .int (nI (r))), (2, .int (nI (k))), (0, .ref (ad 102))]) hx hb dX5_ways_74 hl (by decide) rfl (fun ls hl => ?_)
                refine lv_iload hx hb dX5_ways_76 (lv_at hl 0 rfl) ?_
                refine lv_if_eq (tgt := 177) hx hb dX5_ways_78 (by decide) (fun c78 => ?_) (fun c78 => ?_)
                · have qc78 : 1 = 0 := (wn_eq (a := 1) (b := 0) rfl rfl (by omega) (by omega)).mp c78
                  exact absurd qc78 (by omega)
                · have qc78 : ¬ 1 = 0 := fun z => c78 ((wn_eq (a := 1) (b := 0) rfl rfl (by omega) (by omega)).mpr z)
                  refine lv_ldc2 (v := 1000000) hx hb hown (hts (.constantLong RX5 89 (1000000)) (List.mem_of_getElem? (i := 1) rfl)) dX5_ways_81 ?_
                  refine lv_aload_n hx hb dX5_ways_84 rfl (lv_at hl 6 rfl) ?_
                  refine lv_iload_n hx hb dX5_ways_85 rfl (lv_at hl 4 rfl) ?_
                  refine lv_iconst (v := 4) hx hb dX5_ways_86 (by decide) ?_
                  refine lv_iload hx hb dX5_ways_87 (lv_at hl 3 rfl) ?_
                  refine w_iaddN (a := 4) (b := j) hx hb rfl rfl dX5_ways_89 ?_
                  refine w_calli (va_runV (As := [.int (nI (r)), .int (nI (4 + j))]) (rest := [.long (1000000)]) ⟨hx, hb, hml, hown, hts⟩ (c_X5_loanOf l nW D cA ad hi hNW ((wyIn r k j (wyOut I r k j) (o)).1) J X H.size r (4 + j) (by omega) (by omega)) (cwV 2 hts gX5_ways_X5_loanOf rfl rfl rfl (by decide +kernel) ⟨Nat.le_of_ble_eq_true rfl, Nat.le_of_ble_eq_true rfl⟩) (w_preV hK hP 102 (by omega) ⟨rfl, rfl⟩ rfl) rfl rfl hl.1 rfl (lv_room (Nat.le_of_ble_eq_true rfl)) dX5_ways_90 ⟨Nat.le_of_ble_eq_true rfl, Nat.le_of_ble_eq_true rfl⟩) hS (fun H locs hP hS => ?_)
                  refine lv_i2l (v := (loM ((wyIn r k j (wyOut I r k j) (o)).1) r (4 + j)).toInt64) hx hb dX5_ways_93 rfl ?_
                  refine lv_lmul hx hb dX5_ways_94 ?_
                  refine lv_aload_n hx hb dX5_ways_95 rfl (lv_at hl 6 rfl) ?_
                  refine lv_iload_n hx hb dX5_ways_96 rfl (lv_at hl 4 rfl) ?_
                  refine w_calli (va_runV (As := [.int (nI (r))]) (rest := [.long (1000000 * ((loM ((wyIn r k j (wyOut I r k j) (o)).1) r (4 + j)).toInt64))]) ⟨hx, hb, hml, hown, hts⟩ (c_X5_allOf l nW D cA ad hi hNW ((wyIn r k j (wyOut I r k j) (o)).1) J X H.size r (by omega)) (cwV 1 hts gX5_ways_X5_allOf rfl rfl rfl (by decide +kernel) ⟨Nat.le_of_ble_eq_true rfl, Nat.le_of_ble_eq_true rfl⟩) (w_preV hK hP 102 (by omega) ⟨rfl, rfl⟩ rfl) rfl rfl hl.1 rfl (lv_room (Nat.le_of_ble_eq_true rfl)) dX5_ways_97 ⟨Nat.le_of_ble_eq_true rfl, Nat.le_of_ble_eq_true rfl⟩) hS (fun H locs hP hS => ?_)
                  refine lv_i2l (v := (allM ((wyIn r k j (wyOut I r k j) (o)).1) r).toInt64) hx hb dX5_ways_100 rfl ?_
                  refine lv_ldiv hx hb dX5_ways_101 (ne64 (hal r (4 + j) (by omega) (by omega) hw.2.2.1)) ?_
                  refine lv_topl (fun i1 ei1 => ?_)
                  refine lv_lstore (lv' := [(7, .long (i1)), (6, .int (1)), (5, .int (nI (o))), (3, .int (nI ((wyIn r k j (wyOut I r k j) (o)).2))), (4, .int (nI (j))), (1, .int (nI (r))), (2, .int (nI (k))), (0, .ref (ad 102))]) hx hb dX5_ways_102 hl (by decide) rfl (fun ls hl => ?_)
                  refine lv_lload hx hb dX5_ways_104 (lv_at hl 0 rfl) ?_
                  refine lv_aload_n hx hb dX5_ways_106 rfl (lv_at hl 7 rfl) ?_
                  refine lv_iload hx hb dX5_ways_107 (lv_at hl 2 rfl) ?_
                  refine lv_iconst (v := 4) hx hb dX5_ways_109 (by decide) ?_
                  refine lv_iload hx hb dX5_ways_110 (lv_at hl 4 rfl) ?_
                  refine w_iaddN (a := 4) (b := j) hx hb rfl rfl dX5_ways_112 ?_
                  refine w_calli (va_runV (As := [.int (nI (o)), .int (nI (4 + j))]) (rest := [.long (i1)]) ⟨hx, hb, hml, hown, hts⟩ (c_X5_loanOf l nW D cA ad hi hNW ((wyIn r k j (wyOut I r k j) (o)).1) J X H.size o (4 + j) (by omega) (by omega)) (cwV 2 hts gX5_ways_X5_loanOf rfl rfl rfl (by decide +kernel) ⟨Nat.le_of_ble_eq_true rfl, Nat.le_of_ble_eq_true rfl⟩) (w_preV hK hP 102 (by omega) ⟨rfl, rfl⟩ rfl) rfl rfl hl.1 rfl (lv_room (Nat.le_of_ble_eq_true rfl)) dX5_ways_113 ⟨Nat.le_of_ble_eq_true rfl, Nat.le_of_ble_eq_true rfl⟩) hS (fun H locs hP hS => ?_)
                  refine lv_i2l (v := (loM ((wyIn r k j (wyOut I r k j) (o)).1) o (4 + j)).toInt64) hx hb dX5_ways_116 rfl ?_
                  refine lv_lmul hx hb dX5_ways_117 ?_
                  refine lv_aload_n hx hb dX5_ways_118 rfl (lv_at hl 7 rfl) ?_
                  refine lv_iconst (v := 4) hx hb dX5_ways_119 (by decide) ?_
                  refine lv_iload hx hb dX5_ways_120 (lv_at hl 4 rfl) ?_
                  refine w_iaddN (a := 4) (b := j) hx hb rfl rfl dX5_ways_122 ?_
                  refine w_calli (va_runV (As := [.int (nI (4 + j))]) (rest := [.long (i1 * ((loM ((wyIn r k j (wyOut I r k j) (o)).1) o (4 + j)).toInt64))]) ⟨hx, hb, hml, hown, hts⟩ (c_X5_allOf l nW D cA ad hi hNW ((wyIn r k j (wyOut I r k j) (o)).1) J X H.size (4 + j) (by omega)) (cwV 1 hts gX5_ways_X5_allOf rfl rfl rfl (by decide +kernel) ⟨Nat.le_of_ble_eq_true rfl, Nat.le_of_ble_eq_true rfl⟩) (w_preV hK hP 102 (by omega) ⟨rfl, rfl⟩ rfl) rfl rfl hl.1 rfl (lv_room (Nat.le_of_ble_eq_true rfl)) dX5_ways_123 ⟨Nat.le_of_ble_eq_true rfl, Nat.le_of_ble_eq_true rfl⟩) hS (fun H locs hP hS => ?_)
                  refine lv_i2l (v := (allM ((wyIn r k j (wyOut I r k j) (o)).1) (4 + j)).toInt64) hx hb dX5_ways_126 rfl ?_
                  refine lv_ldiv hx hb dX5_ways_127 (ne64 (hal (4 + j) o (by omega) (by omega) (by rw [loM_comm]; exact hw.2.2.2.1))) ?_
                  refine lv_topl (fun i2 ei2 => ?_)
                  refine lv_lstore (lv' := [(7, .long (i2)), (6, .int (1)), (5, .int (nI (o))), (3, .int (nI ((wyIn r k j (wyOut I r k j) (o)).2))), (4, .int (nI (j))), (1, .int (nI (r))), (2, .int (nI (k))), (0, .ref (ad 102))]) hx hb dX5_ways_128 hl (by decide) rfl (fun ls hl => ?_)
                  refine lv_aload_n hx hb dX5_ways_130 rfl (lv_at hl 7 rfl) ?_
                  refine w_get (C := RX5) (T := TX5) (N := 15) (v := .ref (ad 111)) (index := 43) hx hb hts inX5_ways_X5 hown hK hP 102 11 ⟨rfl, rfl, by decide⟩ (by omega) rfl (List.mem_of_getElem? (i := 2) rfl) (fun _ h9 => h9) dX5_ways_131 ?_
                  refine lv_iload_n hx hb dX5_ways_134 rfl (lv_at hl 3 rfl) ?_
                  refine lv_lload hx hb dX5_ways_135 (lv_at hl 0 rfl) ?_
                  refine lv_aload_n hx hb dX5_ways_137 rfl (lv_at hl 7 rfl) ?_
                  refine lv_iload hx hb dX5_ways_138 (lv_at hl 2 rfl) ?_
                  refine lv_iconst (v := 4) hx hb dX5_ways_140 (by decide) ?_
                  refine lv_iload_n hx hb dX5_ways_141 rfl (lv_at hl 6 rfl) ?_
                  refine w_iaddN (a := 4) (b := k) hx hb rfl rfl dX5_ways_142 ?_
                  refine w_calli (va_runV (As := [.int (nI (o)), .int (nI (4 + k))]) (rest := [.long (i2), .int (nI ((wyIn r k j (wyOut I r k j) (o)).2)), .ref (ad 111)]) ⟨hx, hb, hml, hown, hts⟩ (c_X5_loanOf l nW D cA ad hi hNW ((wyIn r k j (wyOut I r k j) (o)).1) J X H.size o (4 + k) (by omega) (by omega)) (cwV 2 hts gX5_ways_X5_loanOf rfl rfl rfl (by decide +kernel) ⟨Nat.le_of_ble_eq_true rfl, Nat.le_of_ble_eq_true rfl⟩) (w_preV hK hP 102 (by omega) ⟨rfl, rfl⟩ rfl) rfl rfl hl.1 rfl (lv_room (Nat.le_of_ble_eq_true rfl)) dX5_ways_143 ⟨Nat.le_of_ble_eq_true rfl, Nat.le_of_ble_eq_true rfl⟩) hS (fun H locs hP hS => ?_)
                  refine lv_i2l (v := (loM ((wyIn r k j (wyOut I r k j) (o)).1) o (4 + k)).toInt64) hx hb dX5_ways_146 rfl ?_
                  refine lv_lmul hx hb dX5_ways_147 ?_
                  refine lv_aload_n hx hb dX5_ways_148 rfl (lv_at hl 7 rfl) ?_
                  refine lv_iload hx hb dX5_ways_149 (lv_at hl 2 rfl) ?_
                  refine w_calli (va_runV (As := [.int (nI (o))]) (rest := [.long (i2 * ((loM ((wyIn r k j (wyOut I r k j) (o)).1) o (4 + k)).toInt64)), .int (nI ((wyIn r k j (wyOut I r k j) (o)).2)), .ref (ad 111)]) ⟨hx, hb, hml, hown, hts⟩ (c_X5_allOf l nW D cA ad hi hNW ((wyIn r k j (wyOut I r k j) (o)).1) J X H.size o (by omega)) (cwV 1 hts gX5_ways_X5_allOf rfl rfl rfl (by decide +kernel) ⟨Nat.le_of_ble_eq_true rfl, Nat.le_of_ble_eq_true rfl⟩) (w_preV hK hP 102 (by omega) ⟨rfl, rfl⟩ rfl) rfl rfl hl.1 rfl (lv_room (Nat.le_of_ble_eq_true rfl)) dX5_ways_151 ⟨Nat.le_of_ble_eq_true rfl, Nat.le_of_ble_eq_true rfl⟩) hS (fun H locs hP hS => ?_)
                  refine lv_i2l (v := (allM ((wyIn r k j (wyOut I r k j) (o)).1) o).toInt64) hx hb dX5_ways_154 rfl ?_
                  refine lv_ldiv hx hb dX5_ways_155 (ne64 (hal o (4 + k) (by omega) (by omega) hw.2.2.2.2)) ?_
                  refine lv_l2i (v := ((i2 * ((loM ((wyIn r k j (wyOut I r k j) (o)).1) o (4 + k)).toInt64)) / ((allM ((wyIn r k j (wyOut I r k j) (o)).1) o).toInt64)).toInt32) hx hb dX5_ways_156 rfl ?_
                  refine w_iast (v := ((i2 * ((loM ((wyIn r k j (wyOut I r k j) (o)).1) o (4 + k)).toInt64)) / ((allM ((wyIn r k j (wyOut I r k j) (o)).1) o).toInt64)).toInt32) hx hb hK hP hi hA hS 111 ((wyIn r k j (wyOut I r k j) (o)).2) ⟨rfl, (by show (wyIn r k j (wyOut I r k j) (o)).2 < 12; omega)⟩ (by omega) rfl dX5_ways_157 (fun H locs hP hS => ?_)
                  obtain ⟨I_1, eI_1⟩ : ∃ y, y = st2 ((wyIn r k j (wyOut I r k j) (o)).1) 111 ((wyIn r k j (wyOut I r k j) (o)).2) (((i2 * ((loM ((wyIn r k j (wyOut I r k j) (o)).1) o (4 + k)).toInt64)) / ((allM ((wyIn r k j (wyOut I r k j) (o)).1) o).toInt64)).toInt32) := ⟨_, rfl⟩
                  have hP : WP nW D cA ad I_1 J X H := by rw [eI_1]; exact hP
                  refine lv_aload_n hx hb dX5_ways_158 rfl (lv_at hl 7 rfl) ?_
                  refine w_get (C := RX5) (T := TX5) (N := 15) (v := .ref (ad 112)) (index := 46) hx hb hts inX5_ways_X5 hown hK hP 102 12 ⟨rfl, rfl, by decide⟩ (by omega) rfl (List.mem_of_getElem? (i := 3) rfl) (fun _ h9 => h9) dX5_ways_159 ?_
                  refine lv_iload_n hx hb dX5_ways_162 rfl (lv_at hl 3 rfl) ?_
                  refine lv_iload hx hb dX5_ways_163 (lv_at hl 4 rfl) ?_
                  refine w_iast (v := nI (j)) hx hb hK hP hi hA hS 112 ((wyIn r k j (wyOut I r k j) (o)).2) ⟨rfl, (by show (wyIn r k j (wyOut I r k j) (o)).2 < 12; omega)⟩ (by omega) rfl dX5_ways_165 (fun H locs hP hS => ?_)
                  obtain ⟨I_2, eI_2⟩ : ∃ y, y = st2 I_1 112 ((wyIn r k j (wyOut I r k j) (o)).2) (nI (j)) := ⟨_, rfl⟩
                  have hP : WP nW D cA ad I_2 J X H := by rw [eI_2]; exact hP
                  refine lv_aload_n hx hb dX5_ways_166 rfl (lv_at hl 7 rfl) ?_
                  refine w_get (C := RX5) (T := TX5) (N := 15) (v := .ref (ad 113)) (index := 49) hx hb hts inX5_ways_X5 hown hK hP 102 13 ⟨rfl, rfl, by decide⟩ (by omega) rfl (List.mem_of_getElem? (i := 4) rfl) (fun _ h9 => h9) dX5_ways_167 ?_
                  refine lv_iload_n hx hb dX5_ways_170 rfl (lv_at hl 3 rfl) ?_
                  refine lv_iload hx hb dX5_ways_171 (lv_at hl 2 rfl) ?_
                  refine w_iast (v := nI (o)) hx hb hK hP hi hA hS 113 ((wyIn r k j (wyOut I r k j) (o)).2) ⟨rfl, (by show (wyIn r k j (wyOut I r k j) (o)).2 < 12; omega)⟩ (by omega) rfl dX5_ways_173 (fun H locs hP hS => ?_)
                  obtain ⟨I_3, eI_3⟩ : ∃ y, y = st2 I_2 113 ((wyIn r k j (wyOut I r k j) (o)).2) (nI (o)) := ⟨_, rfl⟩
                  have hP : WP nW D cA ad I_3 J X H := by rw [eI_3]; exact hP
                  refine lv_iinc (v := nI ((wyIn r k j (wyOut I r k j) (o)).2 + 1)) (lv' := [(3, .int (nI ((wyIn r k j (wyOut I r k j) (o)).2 + 1))), (7, .long (i2)), (6, .int (1)), (5, .int (nI (o))), (4, .int (nI (j))), (1, .int (nI (r))), (2, .int (nI (k))), (0, .ref (ad 102))]) hx hb dX5_ways_174 hl (k := 3) rfl (wn_inc rfl) (by decide) rfl (fun ls hl => ?_)
                  refine lv_iinc (v := nI (o + 1)) (lv' := [(5, .int (nI (o + 1))), (3, .int (nI ((wyIn r k j (wyOut I r k j) (o)).2 + 1))), (7, .long (i2)), (6, .int (1)), (4, .int (nI (j))), (1, .int (nI (r))), (2, .int (nI (k))), (0, .ref (ad 102))]) hx hb dX5_ways_177 hl (k := 3) rfl (wn_inc rfl) (by decide) rfl (fun ls hl => ?_)
                  refine lv_goto (tgt := 14) hx hb dX5_ways_180 (by decide) ?_
                  exact ih (o + 1) (by omega)  H locs (w_cong (I1 := ((wyIn r k j (wyOut I r k j) ((o + 1))).1)) (J1 := J) (X1 := X) hP ⟨(by subst_vars; first | (simp only [wyIn, if_neg hw]; done) | (simp only [wyIn, if_pos hw]; try rfl)), rfl, rfl⟩) hS ls (lv_cong (l := [(5, .int (nI (o + 1))), (3, .int (nI ((wyIn r k j (wyOut I r k j) (o)).2 + 1))), (4, .int (nI (j))), (1, .int (nI (r))), (2, .int (nI (k))), (0, .ref (ad 102))]) (l' := [(5, .int (nI ((o + 1)))), (3, .int (nI ((wyIn r k j (wyOut I r k j) ((o + 1))).2))), (4, .int (nI (j))), (1, .int (nI (r))), (2, .int (nI (k))), (0, .ref (ad 102))]) (lv_sub hl [0, 1, 4, 5, 6, 7] rfl) (by subst_vars; first | (simp only [wyIn, if_neg hw]; done) | (simp only [wyIn, if_pos hw]; try rfl)))

set_option maxHeartbeats 4000000 in
set_option maxRecDepth 100000 in
theorem lp_X5_ways_A {p : Program} {l : Launch} {e : Env} {s : State} {m : MethodId} {args : Array Value} {below : List Frame} {meth : Method} {c : Code} {Q : State → Prop} {nW : Nat} {D : va_G} {cA : Nat → ClassId} {ad : Nat → Nat} (hi : inj nW ad) (hNW : 114 ≤ nW) (hx : p.tables.exec = Jvm.exec) (hb : c.code = cX5_ways) (hml : c.maxLocals = 9) (hown : s.vm.findClass RX5 = some m.cls) (hts : ∀ w ∈ wsX5_ways, w.before args s = true) (hK : WK D cA s) (I : SI) (J : SJ) (X : SX) (r k : Nat) (hr4 : r < 4) (hk5 : k < 5) (hA5 : AllOK I) (kx :  ∀ (H : Heap) (locs : List Loc), WP nW D cA ad ((wyOut I r k 5).1) J X H → va_S (fr nW ad s.heap.size) s.heap H locs → ∀ (ls : Array Slot), lv_has ls 9 [(3, .int (nI ((wyOut I r k 5).2))), (0, .ref (ad 102))] → W p l e (headSpec wsX5_ways ({ frames := 2, cells := 0, slots := 0, locals := 47 })).room s m args below meth c H locs 0 0 Q (F0 m 189 ls [])) : ∀ (t j : Nat), j + t = 5 →  ∀ (H : Heap) (locs : List Loc), WP nW D cA ad ((wyOut I r k (j)).1) J X H → va_S (fr nW ad s.heap.size) s.heap H locs → ∀ (ls : Array Slot), lv_has ls 9 [(4, .int (nI (j))), (3, .int (nI ((wyOut I r k (j)).2))), (1, .int (nI (r))), (2, .int (nI (k))), (0, .ref (ad 102))] → W p l e (headSpec wsX5_ways ({ frames := 2, cells := 0, slots := 0, locals := 47 })).room s m args below meth c H locs 0 0 Q (F0 m 5 ls []) := by
  have hA : ∀ k, k < nW → fr nW ad s.heap.size (ad k) := fr_ad
  intro t
  induction t with
  | zero =>
    intro j hj  H locs hP hS ls hl
    obtain rfl : 5 = j := by omega
    refine lv_iload hx hb dX5_ways_5 (lv_at hl 0 rfl) ?_
    refine lv_iconst (v := 5) hx hb dX5_ways_7 (by decide) ?_
    refine lv_icmp_ge (tgt := 189) hx hb dX5_ways_8 (by decide) (fun cc => ?_) (fun cc => ?_)
    · have qcc : 5 ≤ 5 := (wn_le (a := 5) (b := 5) rfl rfl (by omega) (by omega)).mp cc
      exact kx  H locs (w_cong (I1 := ((wyOut I r k 5).1)) (J1 := J) (X1 := X) hP ⟨(by subst_vars; rfl), rfl, rfl⟩) hS ls (lv_cong (l := [(3, .int (nI ((wyOut I r k (5)).2))), (0, .ref (ad 102))]) (l' := [(3, .int (nI ((wyOut I r k 5).2))), (0, .ref (ad 102))]) (lv_sub hl [1, 4] rfl) (by subst_vars; rfl))
    · have qcc : ¬ 5 ≤ 5 := fun z => cc ((wn_le (a := 5) (b := 5) rfl rfl (by omega) (by omega)).mpr z)
      exact absurd qcc (by omega)
  | succ t ih =>
    intro j hj  H locs hP hS ls hl
    refine lv_iload hx hb dX5_ways_5 (lv_at hl 0 rfl) ?_
    refine lv_iconst (v := 5) hx hb dX5_ways_7 (by decide) ?_
    refine lv_icmp_ge (tgt := 189) hx hb dX5_ways_8 (by decide) (fun cc => ?_) (fun cc => ?_)
    · have qcc : 5 ≤ j := (wn_le (a := 5) (b := j) rfl rfl (by omega) (by omega)).mp cc
      exact absurd qcc (by omega)
    · have qcc : ¬ 5 ≤ j := fun z => cc ((wn_le (a := 5) (b := j) rfl rfl (by omega) (by omega)).mpr z)
      refine lv_iconst (v := 0) hx hb dX5_ways_11 (by decide) ?_
      refine lv_istore (lv' := [(5, .int (0)), (4, .int (nI (j))), (3, .int (nI ((wyOut I r k (j)).2))), (1, .int (nI (r))), (2, .int (nI (k))), (0, .ref (ad 102))]) hx hb dX5_ways_12 hl (by decide) rfl (fun ls hl => ?_)
      refine lp_X5_ways_B hi hNW hx hb hml hown hts hK I J X r k j hr4 hk5 (by omega) hA5 (fun  H locs hP hS ls hl => ?_) (4) (0) (by omega)  H locs (w_cong (I1 := ((wyIn r k j (wyOut I r k j) (0)).1)) (J1 := J) (X1 := X) hP ⟨(by subst_vars; rfl), rfl, rfl⟩) hS ls (lv_cong (l := [(5, .int (0)), (3, .int (nI ((wyOut I r k (j)).2))), (4, .int (nI (j))), (1, .int (nI (r))), (2, .int (nI (k))), (0, .ref (ad 102))]) (l' := [(5, .int (nI (0))), (3, .int (nI ((wyIn r k j (wyOut I r k j) (0)).2))), (4, .int (nI (j))), (1, .int (nI (r))), (2, .int (nI (k))), (0, .ref (ad 102))]) (lv_sub hl [0, 2, 1, 3, 4, 5] rfl) (by subst_vars; rfl))
      refine lv_iinc (v := nI (j + 1)) (lv' := [(4, .int (nI (j + 1))), (3, .int (nI ((wyIn r k j (wyOut I r k j) (4)).2))), (1, .int (nI (r))), (2, .int (nI (k))), (0, .ref (ad 102))]) hx hb dX5_ways_183 hl (k := 1) rfl (wn_inc rfl) (by decide) rfl (fun ls hl => ?_)
      refine lv_goto (tgt := 5) hx hb dX5_ways_186 (by decide) ?_
      exact ih (j + 1) (by omega)  H locs (w_cong (I1 := ((wyOut I r k ((j + 1))).1)) (J1 := J) (X1 := X) hP ⟨(by subst_vars; rfl), rfl, rfl⟩) hS ls (lv_cong (l := [(4, .int (nI (j + 1))), (3, .int (nI ((wyIn r k j (wyOut I r k j) (4)).2))), (1, .int (nI (r))), (2, .int (nI (k))), (0, .ref (ad 102))]) (l' := [(4, .int (nI ((j + 1)))), (3, .int (nI ((wyOut I r k ((j + 1))).2))), (1, .int (nI (r))), (2, .int (nI (k))), (0, .ref (ad 102))]) (lv_sub hl [0, 1, 2, 3, 4] rfl) (by subst_vars; rfl))

set_option maxHeartbeats 4000000 in
set_option maxRecDepth 100000 in
/-- X5_ways -/
theorem c_X5_ways (l : Launch) (nW : Nat) (D : va_G) (cA : Nat → ClassId) (ad : Nat → Nat) (hi : inj nW ad) (hNW : 114 ≤ nW) (I : SI) (J : SJ) (X : SX) (sz : Nat) (r k : Nat) (hr4 : r < 4) (hk5 : k < 5) (hA5 : AllOK I) : Met l yX5_ways wsX5_ways ({ frames := 2, cells := 0, slots := 0, locals := 47 }) (va_Pc [.ref (ad 102), .int (nI (r)), .int (nI (k))] (wPre nW D cA ad I J X sz)) (qI nW D cA ad sz (nI (wyOut I r k 5).2) ((wyOut I r k 5).1) J X) 0 0 (fr nW ad sz) := by
  refine Met.ofW (cc := cX5_ways) (maxL := 9) (ret := (some .int)) (by decide) rfl ?_
  intro p e s m args below meth c s₁ B hml hv
  obtain ⟨rfl, rfl, hP, hK⟩ := hv
  have hx := B.exec
  have hb := B.bytes
  have hr := B.returns
  have hts := atoms_spec (ws := wsX5_ways) B.pre
  have hown : s.vm.findClass RX5 = some m.cls := findClass_of_methodNamed B.named
  have hlocks := B.notSynchronized
  have hS : va_S (fr nW ad s.heap.size) s.heap s.heap [] := va_S.rf
  have hA : ∀ k, k < nW → fr nW ad s.heap.size (ad k) := fr_ad
  have hl := lv_entry ([.ref (ad 102), .int (nI (r)), .int (nI (k))]) (n := 9) (Nat.le_of_ble_eq_true rfl)
  rw [lg_entry_eq]
  generalize (lg_sl ([.ref (ad 102), .int (nI (r)), .int (nI (k))]) ++ List.replicate (9 - (lg_sl ([.ref (ad 102), .int (nI (r)), .int (nI (k))])).length) Slot.unset).toArray = ls at hl ⊢
  have hl : lv_has ls 9 [(0, .ref (ad 102)), (1, .int (nI (r))), (2, .int (nI (k)))] := hl
  have hS0 := hS
  suffices K : ∀ (H : Heap) (locs : List Loc), WP nW D cA ad I J X H → va_S (fr nW ad s.heap.size) s.heap H locs → W p l e (headSpec wsX5_ways ({ frames := 2, cells := 0, slots := 0, locals := 47 })).room s m ([.ref (ad 102), .int (nI (r)), .int (nI (k))] : List Value).toArray below meth c H locs 0 0 (MQ below (qI nW D cA ad s.heap.size (nI (wyOut I r k 5).2) ((wyOut I r k 5).1) J X) ([.ref (ad 102), .int (nI (r)), .int (nI (k))] : List Value).toArray s 0 0 (fr nW ad s.heap.size)) (F0 m 0 ls []) from K _ _ hP hS
  clear hP hS hS0
  intro H locs hP hS
  refine lv_iconst (v := 0) hx hb dX5_ways_0 (by decide) ?_
  refine lv_istore_n (lv' := [(3, .int (0)), (0, .ref (ad 102)), (1, .int (nI (r))), (2, .int (nI (k)))]) hx hb dX5_ways_1 rfl hl (by decide) rfl (fun ls hl => ?_)
  refine lv_iconst (v := 0) hx hb dX5_ways_2 (by decide) ?_
  refine lv_istore (lv' := [(4, .int (0)), (3, .int (0)), (0, .ref (ad 102)), (1, .int (nI (r))), (2, .int (nI (k)))]) hx hb dX5_ways_3 hl (by decide) rfl (fun ls hl => ?_)
  refine lp_X5_ways_A hi hNW hx hb hml hown hts hK I J X r k hr4 hk5 hA5 (fun  H locs hP hS ls hl => ?_) (5) (0) (by omega)  H locs (w_cong (I1 := ((wyOut I r k 0).1)) (J1 := J) (X1 := X) hP ⟨(by subst_vars; rfl), rfl, rfl⟩) hS ls (lv_cong (l := [(4, .int (0)), (3, .int (0)), (1, .int (nI (r))), (2, .int (nI (k))), (0, .ref (ad 102))]) (l' := [(4, .int (nI (0))), (3, .int (nI ((wyOut I r k 0).2))), (1, .int (nI (r))), (2, .int (nI (k))), (0, .ref (ad 102))]) (lv_sub hl [0, 1, 3, 4, 2] rfl) (by subst_vars; rfl))
  refine lv_iload_n hx hb dX5_ways_189 rfl (lv_at hl 0 rfl) ?_
  exact w_iret hx hb hr hlocks hK hP hS ⟨by subst_vars; rfl, by subst_vars; rfl, by subst_vars; rfl, by subst_vars; rfl⟩ dX5_ways_190

def wsN (I : SI) (x : Nat) : Nat → Nat
  | 0 => 0
  | y + 1 => wsN I x y + (if I 111 x < I 111 y ∨ (I 111 y = I 111 x ∧ y < x) then 1 else 0)
def waA (I : SI) (x : Nat) (wh : Int32) : Int32 := if wh = 0 then I 112 x else if wh = 1 then I 113 x else I 111 x
def waF (I : SI) (mny : Nat) (pl wh : Int32) : Nat → Nat → Int32
  | 0, _ => -1
  | t + 1, x => if nI (wsN I x mny) = pl then waA I x wh else waF I mny pl wh t (x + 1)
theorem wsN_le (I : SI) (x y : Nat) : wsN I x y ≤ y := by
  induction y with
  | zero => exact Nat.le_refl _
  | succ y ih => unfold wsN; split <;> omega

theorem inX5_way_X5 : ∀ w ∈ wsX50, w ∈ wsX5_way := by decide +kernel
set_option maxHeartbeats 4000000 in
set_option maxRecDepth 100000 in
theorem lp_X5_way_B {p : Program} {l : Launch} {e : Env} {s : State} {m : MethodId} {args : Array Value} {below : List Frame} {meth : Method} {c : Code} {Q : State → Prop} {nW : Nat} {D : va_G} {cA : Nat → ClassId} {ad : Nat → Nat} (hi : inj nW ad) (hNW : 114 ≤ nW) (hx : p.tables.exec = Jvm.exec) (hb : c.code = cX5_way) (hml : c.maxLocals = 9) (hown : s.vm.findClass RX5 = some m.cls) (hts : ∀ w ∈ wsX5_way, w.before args s = true) (hK : WK D cA s) (I : SI) (J : SJ) (X : SX) (mny x : Nat) (pl wh : Int32) (hm12 : mny ≤ 12) (hx12 : x < mny) (kx :  ∀ (H : Heap) (locs : List Loc), WP nW D cA ad I J X H → va_S (fr nW ad s.heap.size) s.heap H locs → ∀ (ls : Array Slot), lv_has ls 9 [(7, .int (nI (wsN I x mny))), (6, .int (nI (x))), (5, .int (nI (mny))), (3, .int (pl)), (4, .int (wh)), (0, .ref (ad 102))] → W p l e (headSpec wsX5_way ({ frames := 3, cells := 0, slots := 0, locals := 75 })).room s m args below meth c H locs 0 0 Q (F0 m 130 ls [])) : ∀ (t y : Nat), y + t = mny →  ∀ (H : Heap) (locs : List Loc), WP nW D cA ad I J X H → va_S (fr nW ad s.heap.size) s.heap H locs → ∀ (ls : Array Slot), lv_has ls 9 [(8, .int (nI (y))), (7, .int (nI (wsN I x (y)))), (6, .int (nI (x))), (5, .int (nI (mny))), (3, .int (pl)), (4, .int (wh)), (0, .ref (ad 102))] → W p l e (headSpec wsX5_way ({ frames := 3, cells := 0, slots := 0, locals := 75 })).room s m args below meth c H locs 0 0 Q (F0 m 66 ls []) := by
  have hA : ∀ k, k < nW → fr nW ad s.heap.size (ad k) := fr_ad
  intro t
  induction t with
  | zero =>
    intro y hj  H locs hP hS ls hl
    obtain rfl : mny = y := by omega
    refine lv_iload hx hb dX5_way_66 (lv_at hl 0 rfl) ?_
    refine lv_iload hx hb dX5_way_68 (lv_at hl 3 rfl) ?_
    refine lv_icmp_ge (tgt := 130) hx hb dX5_way_70 (by decide) (fun cc => ?_) (fun cc => ?_)
    · have qcc : mny ≤ mny := (wn_le (a := mny) (b := mny) rfl rfl (by omega) (by omega)).mp cc
      exact kx  H locs hP hS ls (lv_cong (l := [(7, .int (nI (wsN I x (mny)))), (6, .int (nI (x))), (5, .int (nI (mny))), (3, .int (pl)), (4, .int (wh)), (0, .ref (ad 102))]) (l' := [(7, .int (nI (wsN I x mny))), (6, .int (nI (x))), (5, .int (nI (mny))), (3, .int (pl)), (4, .int (wh)), (0, .ref (ad 102))]) (lv_sub hl [1, 2, 3, 4, 5, 6] rfl) (by subst_vars; rfl))
    · have qcc : ¬ mny ≤ mny := fun z => cc ((wn_le (a := mny) (b := mny) rfl rfl (by omega) (by omega)).mpr z)
      exact absurd qcc (by omega)
  | succ t ih =>
    intro y hj  H locs hP hS ls hl
    refine lv_iload hx hb dX5_way_66 (lv_at hl 0 rfl) ?_
    refine lv_iload hx hb dX5_way_68 (lv_at hl 3 rfl) ?_
    refine lv_icmp_ge (tgt := 130) hx hb dX5_way_70 (by decide) (fun cc => ?_) (fun cc => ?_)
    · have qcc : mny ≤ y := (wn_le (a := mny) (b := y) rfl rfl (by omega) (by omega)).mp cc
      exact absurd qcc (by omega)
    · have qcc : ¬ mny ≤ y := fun z => cc ((wn_le (a := mny) (b := y) rfl rfl (by omega) (by omega)).mpr z)
      refine lv_iload hx hb dX5_way_73 (lv_at hl 1 rfl) ?_
      refine lv_aload_n hx hb dX5_way_75 rfl (lv_at hl 6 rfl) ?_
      refine w_get (C := RX5) (T := TX5) (N := 15) (v := .ref (ad 111)) (index := 43) hx hb hts inX5_way_X5 hown hK hP 102 11 ⟨rfl, rfl, by decide⟩ (by omega) rfl (List.mem_of_getElem? (i := 1) rfl) (fun _ h9 => h9) dX5_way_76 ?_
      refine lv_iload hx hb dX5_way_79 (lv_at hl 0 rfl) ?_
      refine w_iald hx hb hK hP 111 (y) ⟨rfl, (by show y < 12; omega)⟩ (by omega) rfl dX5_way_81 ?_
      refine lv_aload_n hx hb dX5_way_82 rfl (lv_at hl 6 rfl) ?_
      refine w_get (C := RX5) (T := TX5) (N := 15) (v := .ref (ad 111)) (index := 43) hx hb hts inX5_way_X5 hown hK hP 102 11 ⟨rfl, rfl, by decide⟩ (by omega) rfl (List.mem_of_getElem? (i := 1) rfl) (fun _ h9 => h9) dX5_way_83 ?_
      refine lv_iload hx hb dX5_way_86 (lv_at hl 2 rfl) ?_
      refine w_iald hx hb hK hP 111 (x) ⟨rfl, (by show x < 12; omega)⟩ (by omega) rfl dX5_way_88 ?_
      refine lv_icmp_gt (tgt := 116) hx hb dX5_way_89 (by decide) (fun ca => ?_) (fun ca => ?_)
      · have hz : I 111 x < I 111 y ∨ (I 111 y = I 111 x ∧ y < x) := Or.inl ca
        refine lv_iconst (v := 1) hx hb dX5_way_116 (by decide) ?_
        refine lv_goto (tgt := 121) hx hb dX5_way_117 (by decide) ?_
        refine w_iaddN (a := (wsN I x (y))) (b := 1) hx hb rfl rfl dX5_way_121 ?_
        refine lv_istore (lv' := [(7, .int (nI ((wsN I x (y)) + 1))), (8, .int (nI (y))), (6, .int (nI (x))), (5, .int (nI (mny))), (3, .int (pl)), (4, .int (wh)), (0, .ref (ad 102))]) hx hb dX5_way_122 hl (by decide) rfl (fun ls hl => ?_)
        refine lv_iinc (v := nI (y + 1)) (lv' := [(8, .int (nI (y + 1))), (7, .int (nI ((wsN I x (y)) + 1))), (6, .int (nI (x))), (5, .int (nI (mny))), (3, .int (pl)), (4, .int (wh)), (0, .ref (ad 102))]) hx hb dX5_way_124 hl (k := 1) rfl (wn_inc rfl) (by decide) rfl (fun ls hl => ?_)
        refine lv_goto (tgt := 66) hx hb dX5_way_127 (by decide) ?_
        exact ih (y + 1) (by omega)  H locs hP hS ls (lv_cong (l := [(8, .int (nI (y + 1))), (7, .int (nI ((wsN I x (y)) + 1))), (6, .int (nI (x))), (5, .int (nI (mny))), (3, .int (pl)), (4, .int (wh)), (0, .ref (ad 102))]) (l' := [(8, .int (nI ((y + 1)))), (7, .int (nI (wsN I x ((y + 1))))), (6, .int (nI (x))), (5, .int (nI (mny))), (3, .int (pl)), (4, .int (wh)), (0, .ref (ad 102))]) (lv_sub hl [0, 1, 2, 3, 4, 5, 6] rfl) (by subst_vars; first | (simp only [wsN, if_pos hz]; done) | (simp only [wsN, if_neg hz]; done)))
      · refine lv_aload_n hx hb dX5_way_92 rfl (lv_at hl 6 rfl) ?_
        refine w_get (C := RX5) (T := TX5) (N := 15) (v := .ref (ad 111)) (index := 43) hx hb hts inX5_way_X5 hown hK hP 102 11 ⟨rfl, rfl, by decide⟩ (by omega) rfl (List.mem_of_getElem? (i := 1) rfl) (fun _ h9 => h9) dX5_way_93 ?_
        refine lv_iload hx hb dX5_way_96 (lv_at hl 0 rfl) ?_
        refine w_iald hx hb hK hP 111 (y) ⟨rfl, (by show y < 12; omega)⟩ (by omega) rfl dX5_way_98 ?_
        refine lv_aload_n hx hb dX5_way_99 rfl (lv_at hl 6 rfl) ?_
        refine w_get (C := RX5) (T := TX5) (N := 15) (v := .ref (ad 111)) (index := 43) hx hb hts inX5_way_X5 hown hK hP 102 11 ⟨rfl, rfl, by decide⟩ (by omega) rfl (List.mem_of_getElem? (i := 1) rfl) (fun _ h9 => h9) dX5_way_100 ?_
        refine lv_iload hx hb dX5_way_103 (lv_at hl 2 rfl) ?_
        refine w_iald hx hb hK hP 111 (x) ⟨rfl, (by show x < 12; omega)⟩ (by omega) rfl dX5_way_105 ?_
        refine lv_icmp_ne (tgt := 120) hx hb dX5_way_106 (by decide) (fun cb => ?_) (fun cb => ?_)
        · have hz : ¬ (I 111 x < I 111 y ∨ (I 111 y = I 111 x ∧ y < x)) := fun z => z.elim ca (fun w => cb w.1)
          refine lv_iconst (v := 0) hx hb dX5_way_120 (by decide) ?_
          refine w_iaddN (a := (wsN I x (y))) (b := 0) hx hb rfl rfl dX5_way_121 ?_
          refine lv_istore (lv' := [(7, .int (nI ((wsN I x (y)) + 0))), (8, .int (nI (y))), (6, .int (nI (x))), (5, .int (nI (mny))), (3, .int (pl)), (4, .int (wh)), (0, .ref (ad 102))]) hx hb dX5_way_122 hl (by decide) rfl (fun ls hl => ?_)
          refine lv_iinc (v := nI (y + 1)) (lv' := [(8, .int (nI (y + 1))), (7, .int (nI ((wsN I x (y)) + 0))), (6, .int (nI (x))), (5, .int (nI (mny))), (3, .int (pl)), (4, .int (wh)), (0, .ref (ad 102))]) hx hb dX5_way_124 hl (k := 1) rfl (wn_inc rfl) (by decide) rfl (fun ls hl => ?_)
          refine lv_goto (tgt := 66) hx hb dX5_way_127 (by decide) ?_
          exact ih (y + 1) (by omega)  H locs hP hS ls (lv_cong (l := [(8, .int (nI (y + 1))), (7, .int (nI ((wsN I x (y)) + 0))), (6, .int (nI (x))), (5, .int (nI (mny))), (3, .int (pl)), (4, .int (wh)), (0, .ref (ad 102))]) (l' := [(8, .int (nI ((y + 1)))), (7, .int (nI (wsN I x ((y + 1))))), (6, .int (nI (x))), (5, .int (nI (mny))), (3, .int (pl)), (4, .int (wh)), (0, .ref (ad 102))]) (lv_sub hl [0, 1, 2, 3, 4, 5, 6] rfl) (by subst_vars; first | (simp only [wsN, if_pos hz]; done) | (simp only [wsN, if_neg hz]; done)))
        · refine lv_iload hx hb dX5_way_109 (lv_at hl 0 rfl) ?_
          refine lv_iload hx hb dX5_way_111 (lv_at hl 2 rfl) ?_
          refine lv_icmp_ge (tgt := 120) hx hb dX5_way_113 (by decide) (fun cd => ?_) (fun cd => ?_)
          · have qcd : x ≤ y := (wn_le (a := x) (b := y) rfl rfl (by omega) (by omega)).mp cd
            have hz : ¬ (I 111 x < I 111 y ∨ (I 111 y = I 111 x ∧ y < x)) := fun z => z.elim ca (fun w => absurd w.2 (by omega))
            refine lv_iconst (v := 0) hx hb dX5_way_120 (by decide) ?_
            refine w_iaddN (a := (wsN I x (y))) (b := 0) hx hb rfl rfl dX5_way_121 ?_
            refine lv_istore (lv' := [(7, .int (nI ((wsN I x (y)) + 0))), (8, .int (nI (y))), (6, .int (nI (x))), (5, .int (nI (mny))), (3, .int (pl)), (4, .int (wh)), (0, .ref (ad 102))]) hx hb dX5_way_122 hl (by decide) rfl (fun ls hl => ?_)
            refine lv_iinc (v := nI (y + 1)) (lv' := [(8, .int (nI (y + 1))), (7, .int (nI ((wsN I x (y)) + 0))), (6, .int (nI (x))), (5, .int (nI (mny))), (3, .int (pl)), (4, .int (wh)), (0, .ref (ad 102))]) hx hb dX5_way_124 hl (k := 1) rfl (wn_inc rfl) (by decide) rfl (fun ls hl => ?_)
            refine lv_goto (tgt := 66) hx hb dX5_way_127 (by decide) ?_
            exact ih (y + 1) (by omega)  H locs hP hS ls (lv_cong (l := [(8, .int (nI (y + 1))), (7, .int (nI ((wsN I x (y)) + 0))), (6, .int (nI (x))), (5, .int (nI (mny))), (3, .int (pl)), (4, .int (wh)), (0, .ref (ad 102))]) (l' := [(8, .int (nI ((y + 1)))), (7, .int (nI (wsN I x ((y + 1))))), (6, .int (nI (x))), (5, .int (nI (mny))), (3, .int (pl)), (4, .int (wh)), (0, .ref (ad 102))]) (lv_sub hl [0, 1, 2, 3, 4, 5, 6] rfl) (by subst_vars; first | (simp only [wsN, if_pos hz]; done) | (simp only [wsN, if_neg hz]; done)))
          · have qcd : ¬ x ≤ y := fun z => cd ((wn_le (a := x) (b := y) rfl rfl (by omega) (by omega)).mpr z)
            have hz : I 111 x < I 111 y ∨ (I 111 y = I 111 x ∧ y < x) := Or.inr ⟨cb, by omega⟩
            refine lv_iconst (v := 1) hx hb dX5_way_116 (by decide) ?_
            refine lv_goto (tgt := 121) hx hb dX5_way_117 (by decide) ?_
            refine w_iaddN (a := (wsN I x (y))) (b := 1) hx hb rfl rfl dX5_way_121 ?_
            refine lv_istore (lv' := [(7, .int (nI ((wsN I x (y)) + 1))), (8, .int (nI (y))), (6, .int (nI (x))), (5, .int (nI (mny))), (3, .int (pl)), (4, .int (wh)), (0, .ref (ad 102))]) hx hb dX5_way_122 hl (by decide) rfl (fun ls hl => ?_)
            refine lv_iinc (v := nI (y + 1)) (lv' := [(8, .int (nI (y + 1))), (7, .int (nI ((wsN I x (y)) + 1))), (6, .int (nI (x))), (5, .int (nI (mny))), (3, .int (pl)), (4, .int (wh)), (0, .ref (ad 102))]) hx hb dX5_way_124 hl (k := 1) rfl (wn_inc rfl) (by decide) rfl (fun ls hl => ?_)
            refine lv_goto (tgt := 66) hx hb dX5_way_127 (by decide) ?_
            exact ih (y + 1) (by omega)  H locs hP hS ls (lv_cong (l := [(8, .int (nI (y + 1))), (7, .int (nI ((wsN I x (y)) + 1))), (6, .int (nI (x))), (5, .int (nI (mny))), (3, .int (pl)), (4, .int (wh)), (0, .ref (ad 102))]) (l' := [(8, .int (nI ((y + 1)))), (7, .int (nI (wsN I x ((y + 1))))), (6, .int (nI (x))), (5, .int (nI (mny))), (3, .int (pl)), (4, .int (wh)), (0, .ref (ad 102))]) (lv_sub hl [0, 1, 2, 3, 4, 5, 6] rfl) (by subst_vars; first | (simp only [wsN, if_pos hz]; done) | (simp only [wsN, if_neg hz]; done)))

set_option maxHeartbeats 4000000 in
set_option maxRecDepth 100000 in
theorem lp_X5_way_A {p : Program} {l : Launch} {e : Env} {s : State} {m : MethodId} {args : Array Value} {below : List Frame} {meth : Method} {c : Code} {Q : State → Prop} {nW : Nat} {D : va_G} {cA : Nat → ClassId} {ad : Nat → Nat} (hi : inj nW ad) (hNW : 114 ≤ nW) (hx : p.tables.exec = Jvm.exec) (hb : c.code = cX5_way) (hml : c.maxLocals = 9) (hown : s.vm.findClass RX5 = some m.cls) (hts : ∀ w ∈ wsX5_way, w.before args s = true) (hK : WK D cA s) (I : SI) (J : SJ) (X : SX) (mny : Nat) (pl wh : Int32) (hm12 : mny ≤ 12) (kx : waF I mny pl wh mny 0 = -1 → ∀ (H : Heap) (locs : List Loc), WP nW D cA ad I J X H → va_S (fr nW ad s.heap.size) s.heap H locs → ∀ (ls : Array Slot), lv_has ls 9 [(0, .ref (ad 102))] → W p l e (headSpec wsX5_way ({ frames := 3, cells := 0, slots := 0, locals := 75 })).room s m args below meth c H locs 0 0 Q (F0 m 181 ls [])) (kr : ∀ (x : Nat), x < mny → waF I mny pl wh mny 0 = waA I x wh → ∀ (H : Heap) (locs : List Loc), WP nW D cA ad I J X H → va_S (fr nW ad s.heap.size) s.heap H locs → ∀ (ls : Array Slot), lv_has ls 9 [(6, .int (nI (x))), (4, .int (wh)), (0, .ref (ad 102))] → W p l e (headSpec wsX5_way ({ frames := 3, cells := 0, slots := 0, locals := 75 })).room s m args below meth c H locs 0 0 Q (F0 m 136 ls [])) : ∀ (t x : Nat), x + t = mny → (hq : waF I mny pl wh mny 0 = waF I mny pl wh t x) → ∀ (H : Heap) (locs : List Loc), WP nW D cA ad I J X H → va_S (fr nW ad s.heap.size) s.heap H locs → ∀ (ls : Array Slot), lv_has ls 9 [(6, .int (nI (x))), (5, .int (nI (mny))), (3, .int (pl)), (4, .int (wh)), (0, .ref (ad 102))] → W p l e (headSpec wsX5_way ({ frames := 3, cells := 0, slots := 0, locals := 75 })).room s m args below meth c H locs 0 0 Q (F0 m 53 ls []) := by
  have hA : ∀ k, k < nW → fr nW ad s.heap.size (ad k) := fr_ad
  intro t
  induction t with
  | zero =>
    intro x hj hq H locs hP hS ls hl
    obtain rfl : mny = x := by omega
    refine lv_iload hx hb dX5_way_53 (lv_at hl 0 rfl) ?_
    refine lv_iload hx hb dX5_way_55 (lv_at hl 1 rfl) ?_
    refine lv_icmp_ge (tgt := 181) hx hb dX5_way_57 (by decide) (fun cc => ?_) (fun cc => ?_)
    · have qcc : mny ≤ mny := (wn_le (a := mny) (b := mny) rfl rfl (by omega) (by omega)).mp cc
      exact kx hq H locs hP hS ls (lv_sub hl [4] rfl)
    · have qcc : ¬ mny ≤ mny := fun z => cc ((wn_le (a := mny) (b := mny) rfl rfl (by omega) (by omega)).mpr z)
      exact absurd qcc (by omega)
  | succ t ih =>
    intro x hj hq H locs hP hS ls hl
    refine lv_iload hx hb dX5_way_53 (lv_at hl 0 rfl) ?_
    refine lv_iload hx hb dX5_way_55 (lv_at hl 1 rfl) ?_
    refine lv_icmp_ge (tgt := 181) hx hb dX5_way_57 (by decide) (fun cc => ?_) (fun cc => ?_)
    · have qcc : mny ≤ x := (wn_le (a := mny) (b := x) rfl rfl (by omega) (by omega)).mp cc
      exact absurd qcc (by omega)
    · have qcc : ¬ mny ≤ x := fun z => cc ((wn_le (a := mny) (b := x) rfl rfl (by omega) (by omega)).mpr z)
      refine lv_iconst (v := 0) hx hb dX5_way_60 (by decide) ?_
      refine lv_istore (lv' := [(7, .int (0)), (6, .int (nI (x))), (5, .int (nI (mny))), (3, .int (pl)), (4, .int (wh)), (0, .ref (ad 102))]) hx hb dX5_way_61 hl (by decide) rfl (fun ls hl => ?_)
      refine lv_iconst (v := 0) hx hb dX5_way_63 (by decide) ?_
      refine lv_istore (lv' := [(8, .int (0)), (7, .int (0)), (6, .int (nI (x))), (5, .int (nI (mny))), (3, .int (pl)), (4, .int (wh)), (0, .ref (ad 102))]) hx hb dX5_way_64 hl (by decide) rfl (fun ls hl => ?_)
      refine lp_X5_way_B hi hNW hx hb hml hown hts hK I J X mny x pl wh hm12 (by omega) (fun  H locs hP hS ls hl => ?_) (mny) (0) (by omega)  H locs hP hS ls (lv_cong (l := [(8, .int (0)), (7, .int (0)), (6, .int (nI (x))), (5, .int (nI (mny))), (3, .int (pl)), (4, .int (wh)), (0, .ref (ad 102))]) (l' := [(8, .int (nI (0))), (7, .int (nI (wsN I x 0))), (6, .int (nI (x))), (5, .int (nI (mny))), (3, .int (pl)), (4, .int (wh)), (0, .ref (ad 102))]) (lv_sub hl [0, 1, 2, 3, 4, 5, 6] rfl) (by subst_vars; rfl))
      refine lv_iload hx hb dX5_way_130 (lv_at hl 0 rfl) ?_
      refine lv_iload_n hx hb dX5_way_132 rfl (lv_at hl 3 rfl) ?_
      refine lv_icmp_ne (tgt := 175) hx hb dX5_way_133 (by decide) (fun c133 => ?_) (fun c133 => ?_)
      · refine lv_iinc (v := nI (x + 1)) (lv' := [(6, .int (nI (x + 1))), (7, .int (nI (wsN I x mny))), (5, .int (nI (mny))), (3, .int (pl)), (4, .int (wh)), (0, .ref (ad 102))]) hx hb dX5_way_175 hl (k := 1) rfl (wn_inc rfl) (by decide) rfl (fun ls hl => ?_)
        refine lv_goto (tgt := 53) hx hb dX5_way_178 (by decide) ?_
        exact ih (x + 1) (by omega) (hq.trans (by rw [waF, if_neg c133])) H locs hP hS ls (lv_cong (l := [(6, .int (nI (x + 1))), (5, .int (nI (mny))), (3, .int (pl)), (4, .int (wh)), (0, .ref (ad 102))]) (l' := [(6, .int (nI ((x + 1)))), (5, .int (nI (mny))), (3, .int (pl)), (4, .int (wh)), (0, .ref (ad 102))]) (lv_sub hl [0, 2, 3, 4, 5] rfl) (by subst_vars; rfl))
      · have hy := c133
        exact kr x (by omega) (hq.trans (by unfold waF; rw [if_pos hy])) H locs hP hS ls (lv_sub hl [1, 4, 5] rfl)

set_option maxHeartbeats 4000000 in
set_option maxRecDepth 100000 in
/-- X5_way -/
theorem c_X5_way_ok (l : Launch) (nW : Nat) (D : va_G) (cA : Nat → ClassId) (ad : Nat → Nat) (hi : inj nW ad) (hNW : 114 ≤ nW) (I : SI) (J : SJ) (X : SX) (sz : Nat) (r k : Nat) (pl wh : Int32) (hr4 : r < 4) (hk5 : k < 5) (hp : isPairF (nI r) (nI k) = 1) (hpl : ¬ pl < 0) (hm : inF wh 0 2 = 1) (hA5 : AllOK I) : Met l yX5_way wsX5_way ({ frames := 3, cells := 0, slots := 0, locals := 75 }) (va_Pc [.ref (ad 102), .int (nI (r)), .int (nI (k)), .int (pl), .int (wh)] (wPre nW D cA ad I J X sz)) (qI nW D cA ad sz (waF (wyOut (st2 I 102 14 0) r k 5).1 (wyOut (st2 I 102 14 0) r k 5).2 pl wh (wyOut (st2 I 102 14 0) r k 5).2 0) ((wyOut (st2 I 102 14 0) r k 5).1) J X) 0 0 (fr nW ad sz) := by
  refine Met.ofW (cc := cX5_way) (maxL := 9) (ret := (some .int)) (by decide) rfl ?_
  intro p e s m args below meth c s₁ B hml hv
  obtain ⟨rfl, rfl, hP, hK⟩ := hv
  have hx := B.exec
  have hb := B.bytes
  have hr := B.returns
  have hts := atoms_spec (ws := wsX5_way) B.pre
  have hown : s.vm.findClass RX5 = some m.cls := findClass_of_methodNamed B.named
  have hlocks := B.notSynchronized
  have hS : va_S (fr nW ad s.heap.size) s.heap s.heap [] := va_S.rf
  have hA : ∀ k, k < nW → fr nW ad s.heap.size (ad k) := fr_ad
  have hl := lv_entry ([.ref (ad 102), .int (nI (r)), .int (nI (k)), .int (pl), .int (wh)]) (n := 9) (Nat.le_of_ble_eq_true rfl)
  rw [lg_entry_eq]
  generalize (lg_sl ([.ref (ad 102), .int (nI (r)), .int (nI (k)), .int (pl), .int (wh)]) ++ List.replicate (9 - (lg_sl ([.ref (ad 102), .int (nI (r)), .int (nI (k)), .int (pl), .int (wh)])).length) Slot.unset).toArray = ls at hl ⊢
  have hl : lv_has ls 9 [(0, .ref (ad 102)), (1, .int (nI (r))), (2, .int (nI (k))), (3, .int (pl)), (4, .int (wh))] := hl
  have hS0 := hS
  have hw12 : (wyOut (st2 I 102 14 0) r k 5).2 ≤ 12 := wy_all hr4 hk5
  suffices K : ∀ (H : Heap) (locs : List Loc), WP nW D cA ad I J X H → va_S (fr nW ad s.heap.size) s.heap H locs → W p l e (headSpec wsX5_way ({ frames := 3, cells := 0, slots := 0, locals := 75 })).room s m ([.ref (ad 102), .int (nI (r)), .int (nI (k)), .int (pl), .int (wh)] : List Value).toArray below meth c H locs 0 0 (MQ below (qI nW D cA ad s.heap.size (waF (wyOut (st2 I 102 14 0) r k 5).1 (wyOut (st2 I 102 14 0) r k 5).2 pl wh (wyOut (st2 I 102 14 0) r k 5).2 0) ((wyOut (st2 I 102 14 0) r k 5).1) J X) ([.ref (ad 102), .int (nI (r)), .int (nI (k)), .int (pl), .int (wh)] : List Value).toArray s 0 0 (fr nW ad s.heap.size)) (F0 m 0 ls []) from K _ _ hP hS
  clear hP hS hS0
  intro H locs hP hS
  refine lv_aload_n hx hb dX5_way_0 rfl (lv_at hl 0 rfl) ?_
  refine lv_aload_n hx hb dX5_way_1 rfl (lv_at hl 0 rfl) ?_
  refine lv_iload_n hx hb dX5_way_2 rfl (lv_at hl 1 rfl) ?_
  refine lv_iload_n hx hb dX5_way_3 rfl (lv_at hl 2 rfl) ?_
  refine w_calli (va_runV (As := [.int (nI (r)), .int (nI (k))]) (rest := [.ref (ad 102)]) ⟨hx, hb, hml, hown, hts⟩ (c_X5_isPair l nW D cA ad hi hNW I J X H.size (nI (r)) (nI (k))) (cwV 2 hts gX5_way_X5_isPair rfl rfl rfl (by decide +kernel) ⟨Nat.le_of_ble_eq_true rfl, Nat.le_of_ble_eq_true rfl⟩) (w_preV hK hP 102 (by omega) ⟨rfl, rfl⟩ rfl) rfl rfl hl.1 rfl (lv_room (Nat.le_of_ble_eq_true rfl)) dX5_way_4 ⟨Nat.le_of_ble_eq_true rfl, Nat.le_of_ble_eq_true rfl⟩) hS (fun H locs hP hS => ?_)
  refine w_topN (a := 1) hp ?_
  refine lv_if_eq (tgt := 14) hx hb dX5_way_7 (by decide) (fun c7 => ?_) (fun c7 => ?_)
  · have qc7 : 1 = 0 := (wn_eq (a := 1) (b := 0) rfl rfl (by omega) (by omega)).mp c7
    exact absurd qc7 (by omega)
  · have qc7 : ¬ 1 = 0 := fun z => c7 ((wn_eq (a := 1) (b := 0) rfl rfl (by omega) (by omega)).mpr z)
    refine lv_iload_n hx hb dX5_way_10 rfl (lv_at hl 3 rfl) ?_
    refine lv_if_ge (tgt := 18) hx hb dX5_way_11 (by decide) (fun c11 => ?_) (fun c11 => ?_)
    · refine lv_aload_n hx hb dX5_way_18 rfl (lv_at hl 0 rfl) ?_
      refine lv_iload hx hb dX5_way_19 (lv_at hl 4 rfl) ?_
      refine lv_iconst (v := 0) hx hb dX5_way_21 (by decide) ?_
      refine lv_iconst (v := 2) hx hb dX5_way_22 (by decide) ?_
      refine w_calli (va_runV (As := [.int (wh), .int (0), .int (2)]) (rest := [.ref (ad 102)]) ⟨hx, hb, hml, hown, hts⟩ (c_X5_in l nW D cA ad hi hNW I J X H.size wh 0 2) (cwV 3 hts gX5_way_X5_in rfl rfl rfl (by decide +kernel) ⟨Nat.le_of_ble_eq_true rfl, Nat.le_of_ble_eq_true rfl⟩) (w_preV hK hP 102 (by omega) ⟨rfl, rfl⟩ rfl) rfl rfl hl.1 rfl (lv_room (Nat.le_of_ble_eq_true rfl)) dX5_way_23 ⟨Nat.le_of_ble_eq_true rfl, Nat.le_of_ble_eq_true rfl⟩) hS (fun H locs hP hS => ?_)
      refine w_topN (a := 1) hm ?_
      refine lv_if_eq (tgt := 33) hx hb dX5_way_26 (by decide) (fun c26 => ?_) (fun c26 => ?_)
      · have qc26 : 1 = 0 := (wn_eq (a := 1) (b := 0) rfl rfl (by omega) (by omega)).mp c26
        exact absurd qc26 (by omega)
      · have qc26 : ¬ 1 = 0 := fun z => c26 ((wn_eq (a := 1) (b := 0) rfl rfl (by omega) (by omega)).mpr z)
        refine lv_iconst (v := 0) hx hb dX5_way_29 (by decide) ?_
        refine lv_goto (tgt := 34) hx hb dX5_way_30 (by decide) ?_
        refine w_calli (va_runV (As := [.int (0)]) (rest := []) ⟨hx, hb, hml, hown, hts⟩ (c_X5_fails l nW D cA ad hi hNW I J X H.size 0) (cwV 1 hts gX5_way_X5_fails rfl rfl rfl (by decide +kernel) ⟨Nat.le_of_ble_eq_true rfl, Nat.le_of_ble_eq_true rfl⟩) (w_preV hK hP 102 (by omega) ⟨rfl, rfl⟩ rfl) rfl rfl hl.1 rfl (lv_room (Nat.le_of_ble_eq_true rfl)) dX5_way_34 ⟨Nat.le_of_ble_eq_true rfl, Nat.le_of_ble_eq_true rfl⟩) hS (fun H locs hP hS => ?_)
        refine w_topN (a := 0) (by decide) ?_
        refine lv_if_eq (tgt := 42) hx hb dX5_way_37 (by decide) (fun c37 => ?_) (fun c37 => ?_)
        · have qc37 : 0 = 0 := (wn_eq (a := 0) (b := 0) rfl rfl (by omega) (by omega)).mp c37
          refine lv_aload_n hx hb dX5_way_42 rfl (lv_at hl 0 rfl) ?_
          refine lv_iload_n hx hb dX5_way_43 rfl (lv_at hl 1 rfl) ?_
          refine lv_iload_n hx hb dX5_way_44 rfl (lv_at hl 2 rfl) ?_
          refine w_calli (va_runV (As := [.int (nI (r)), .int (nI (k))]) (rest := []) ⟨hx, hb, hml, hown, hts⟩ (c_X5_ways l nW D cA ad hi hNW (st2 I 102 14 0) J X H.size r k (by omega) (by omega) (AllOK_far (by decide) (by decide) hA5)) (cwV 2 hts gX5_way_X5_ways rfl rfl rfl (by decide +kernel) ⟨Nat.le_of_ble_eq_true rfl, Nat.le_of_ble_eq_true rfl⟩) (w_preV hK hP 102 (by omega) ⟨rfl, rfl⟩ rfl) rfl rfl hl.1 rfl (lv_room (Nat.le_of_ble_eq_true rfl)) dX5_way_45 ⟨Nat.le_of_ble_eq_true rfl, Nat.le_of_ble_eq_true rfl⟩) hS (fun H locs hP hS => ?_)
          refine lv_istore (lv' := [(5, .int (nI ((wyOut (st2 I 102 14 0) r k 5).2))), (0, .ref (ad 102)), (1, .int (nI (r))), (2, .int (nI (k))), (3, .int (pl)), (4, .int (wh))]) hx hb dX5_way_48 hl (by decide) rfl (fun ls hl => ?_)
          refine lv_iconst (v := 0) hx hb dX5_way_50 (by decide) ?_
          refine lv_istore (lv' := [(6, .int (0)), (5, .int (nI ((wyOut (st2 I 102 14 0) r k 5).2))), (0, .ref (ad 102)), (1, .int (nI (r))), (2, .int (nI (k))), (3, .int (pl)), (4, .int (wh))]) hx hb dX5_way_51 hl (by decide) rfl (fun ls hl => ?_)
          refine lp_X5_way_A hi hNW hx hb hml hown hts hK ((wyOut (st2 I 102 14 0) r k 5).1) J X (wyOut (st2 I 102 14 0) r k 5).2 pl wh (wy_all hr4 hk5) (fun h181 H locs hP hS ls hl => ?_) (fun x x12 h136 H locs hP hS ls hl => ?_) ((wyOut (st2 I 102 14 0) r k 5).2) (0) (by omega) rfl H locs (w_cong (I1 := ((wyOut (st2 I 102 14 0) r k 5).1)) (J1 := J) (X1 := X) hP ⟨(by subst_vars; rfl), rfl, rfl⟩) hS ls (lv_cong (l := [(6, .int (0)), (5, .int (nI ((wyOut (st2 I 102 14 0) r k 5).2))), (3, .int (pl)), (4, .int (wh)), (0, .ref (ad 102))]) (l' := [(6, .int (nI (0))), (5, .int (nI ((wyOut (st2 I 102 14 0) r k 5).2))), (3, .int (pl)), (4, .int (wh)), (0, .ref (ad 102))]) (lv_sub hl [0, 1, 5, 6, 2] rfl) (by subst_vars; rfl))
          · refine lv_iconst (v := (-1)) hx hb dX5_way_181 (by decide) ?_
            exact w_iret hx hb hr hlocks hK hP hS ⟨h181.symm, by subst_vars; rfl, by subst_vars; rfl, by subst_vars; rfl⟩ dX5_way_182
          · refine lv_iload hx hb dX5_way_136 (lv_at hl 1 rfl) ?_
            refine lv_if_ne (tgt := 151) hx hb dX5_way_138 (by decide) (fun c138 => ?_) (fun c138 => ?_)
            · refine lv_iload hx hb dX5_way_151 (lv_at hl 1 rfl) ?_
              refine lv_iconst (v := 1) hx hb dX5_way_153 (by decide) ?_
              refine lv_icmp_ne (tgt := 167) hx hb dX5_way_154 (by decide) (fun c154 => ?_) (fun c154 => ?_)
              · refine lv_aload_n hx hb dX5_way_167 rfl (lv_at hl 2 rfl) ?_
                refine w_get (C := RX5) (T := TX5) (N := 15) (v := .ref (ad 111)) (index := 43) hx hb hts inX5_way_X5 hown hK hP 102 11 ⟨rfl, rfl, by decide⟩ (by omega) rfl (List.mem_of_getElem? (i := 1) rfl) (fun _ h9 => h9) dX5_way_168 ?_
                refine lv_iload hx hb dX5_way_171 (lv_at hl 0 rfl) ?_
                refine w_iald hx hb hK hP 111 (x) ⟨rfl, (by show x < 12; omega)⟩ (by omega) rfl dX5_way_173 ?_
                exact w_iret hx hb hr hlocks hK hP hS ⟨by rw [h136]; unfold waA; rw [if_neg c138, if_neg c154], by subst_vars; rfl, by subst_vars; rfl, by subst_vars; rfl⟩ dX5_way_174
              · refine lv_aload_n hx hb dX5_way_157 rfl (lv_at hl 2 rfl) ?_
                refine w_get (C := RX5) (T := TX5) (N := 15) (v := .ref (ad 113)) (index := 49) hx hb hts inX5_way_X5 hown hK hP 102 13 ⟨rfl, rfl, by decide⟩ (by omega) rfl (List.mem_of_getElem? (i := 3) rfl) (fun _ h9 => h9) dX5_way_158 ?_
                refine lv_iload hx hb dX5_way_161 (lv_at hl 0 rfl) ?_
                refine w_iald hx hb hK hP 113 (x) ⟨rfl, (by show x < 12; omega)⟩ (by omega) rfl dX5_way_163 ?_
                refine lv_goto (tgt := 174) hx hb dX5_way_164 (by decide) ?_
                exact w_iret hx hb hr hlocks hK hP hS ⟨by rw [h136]; unfold waA; rw [if_neg c138, if_pos c154], by subst_vars; rfl, by subst_vars; rfl, by subst_vars; rfl⟩ dX5_way_174
            · refine lv_aload_n hx hb dX5_way_141 rfl (lv_at hl 2 rfl) ?_
              refine w_get (C := RX5) (T := TX5) (N := 15) (v := .ref (ad 112)) (index := 46) hx hb hts inX5_way_X5 hown hK hP 102 12 ⟨rfl, rfl, by decide⟩ (by omega) rfl (List.mem_of_getElem? (i := 2) rfl) (fun _ h9 => h9) dX5_way_142 ?_
              refine lv_iload hx hb dX5_way_145 (lv_at hl 0 rfl) ?_
              refine w_iald hx hb hK hP 112 (x) ⟨rfl, (by show x < 12; omega)⟩ (by omega) rfl dX5_way_147 ?_
              refine lv_goto (tgt := 174) hx hb dX5_way_148 (by decide) ?_
              exact w_iret hx hb hr hlocks hK hP hS ⟨by rw [h136]; unfold waA; rw [if_pos c138], by subst_vars; rfl, by subst_vars; rfl, by subst_vars; rfl⟩ dX5_way_174
        · have qc37 : ¬ 0 = 0 := fun z => c37 ((wn_eq (a := 0) (b := 0) rfl rfl (by omega) (by omega)).mpr z)
          exact absurd qc37 (by omega)
    · exact absurd (by rw [Int32.not_lt] at hpl; exact hpl) c11

set_option maxHeartbeats 4000000 in
set_option maxRecDepth 100000 in
/-- X5_way -/
theorem c_X5_way_f1 (l : Launch) (nW : Nat) (D : va_G) (cA : Nat → ClassId) (ad : Nat → Nat) (hi : inj nW ad) (hNW : 114 ≤ nW) (I : SI) (J : SJ) (X : SX) (sz : Nat) (r k pl wh : Int32) (hp : isPairF r k = 0) : Met l yX5_way wsX5_way ({ frames := 3, cells := 0, slots := 0, locals := 75 }) (va_Pc [.ref (ad 102), .int (r), .int (k), .int (pl), .int (wh)] (wPre nW D cA ad I J X sz)) (qI nW D cA ad sz (-1) (st2 I 102 14 1) J X) 0 0 (fr nW ad sz) := by
  refine Met.ofW (cc := cX5_way) (maxL := 9) (ret := (some .int)) (by decide) rfl ?_
  intro p e s m args below meth c s₁ B hml hv
  obtain ⟨rfl, rfl, hP, hK⟩ := hv
  have hx := B.exec
  have hb := B.bytes
  have hr := B.returns
  have hts := atoms_spec (ws := wsX5_way) B.pre
  have hown : s.vm.findClass RX5 = some m.cls := findClass_of_methodNamed B.named
  have hlocks := B.notSynchronized
  have hS : va_S (fr nW ad s.heap.size) s.heap s.heap [] := va_S.rf
  have hA : ∀ k, k < nW → fr nW ad s.heap.size (ad k) := fr_ad
  have hl := lv_entry ([.ref (ad 102), .int (r), .int (k), .int (pl), .int (wh)]) (n := 9) (Nat.le_of_ble_eq_true rfl)
  rw [lg_entry_eq]
  generalize (lg_sl ([.ref (ad 102), .int (r), .int (k), .int (pl), .int (wh)]) ++ List.replicate (9 - (lg_sl ([.ref (ad 102), .int (r), .int (k), .int (pl), .int (wh)])).length) Slot.unset).toArray = ls at hl ⊢
  have hl : lv_has ls 9 [(0, .ref (ad 102)), (1, .int (r)), (2, .int (k)), (3, .int (pl)), (4, .int (wh))] := hl
  have hS0 := hS
  suffices K : ∀ (H : Heap) (locs : List Loc), WP nW D cA ad I J X H → va_S (fr nW ad s.heap.size) s.heap H locs → W p l e (headSpec wsX5_way ({ frames := 3, cells := 0, slots := 0, locals := 75 })).room s m ([.ref (ad 102), .int (r), .int (k), .int (pl), .int (wh)] : List Value).toArray below meth c H locs 0 0 (MQ below (qI nW D cA ad s.heap.size (-1) (st2 I 102 14 1) J X) ([.ref (ad 102), .int (r), .int (k), .int (pl), .int (wh)] : List Value).toArray s 0 0 (fr nW ad s.heap.size)) (F0 m 0 ls []) from K _ _ hP hS
  clear hP hS hS0
  intro H locs hP hS
  refine lv_aload_n hx hb dX5_way_0 rfl (lv_at hl 0 rfl) ?_
  refine lv_aload_n hx hb dX5_way_1 rfl (lv_at hl 0 rfl) ?_
  refine lv_iload_n hx hb dX5_way_2 rfl (lv_at hl 1 rfl) ?_
  refine lv_iload_n hx hb dX5_way_3 rfl (lv_at hl 2 rfl) ?_
  refine w_calli (va_runV (As := [.int (r), .int (k)]) (rest := [.ref (ad 102)]) ⟨hx, hb, hml, hown, hts⟩ (c_X5_isPair l nW D cA ad hi hNW I J X H.size r k) (cwV 2 hts gX5_way_X5_isPair rfl rfl rfl (by decide +kernel) ⟨Nat.le_of_ble_eq_true rfl, Nat.le_of_ble_eq_true rfl⟩) (w_preV hK hP 102 (by omega) ⟨rfl, rfl⟩ rfl) rfl rfl hl.1 rfl (lv_room (Nat.le_of_ble_eq_true rfl)) dX5_way_4 ⟨Nat.le_of_ble_eq_true rfl, Nat.le_of_ble_eq_true rfl⟩) hS (fun H locs hP hS => ?_)
  refine w_topN (a := 0) hp ?_
  refine lv_if_eq (tgt := 14) hx hb dX5_way_7 (by decide) (fun c7 => ?_) (fun c7 => ?_)
  · have qc7 : 0 = 0 := (wn_eq (a := 0) (b := 0) rfl rfl (by omega) (by omega)).mp c7
    refine lv_iconst (v := 1) hx hb dX5_way_14 (by decide) ?_
    refine lv_goto (tgt := 34) hx hb dX5_way_15 (by decide) ?_
    refine w_calli (va_runV (As := [.int (1)]) (rest := []) ⟨hx, hb, hml, hown, hts⟩ (c_X5_fails l nW D cA ad hi hNW I J X H.size 1) (cwV 1 hts gX5_way_X5_fails rfl rfl rfl (by decide +kernel) ⟨Nat.le_of_ble_eq_true rfl, Nat.le_of_ble_eq_true rfl⟩) (w_preV hK hP 102 (by omega) ⟨rfl, rfl⟩ rfl) rfl rfl hl.1 rfl (lv_room (Nat.le_of_ble_eq_true rfl)) dX5_way_34 ⟨Nat.le_of_ble_eq_true rfl, Nat.le_of_ble_eq_true rfl⟩) hS (fun H locs hP hS => ?_)
    refine w_topN (a := 1) (by decide) ?_
    refine lv_if_eq (tgt := 42) hx hb dX5_way_37 (by decide) (fun c37 => ?_) (fun c37 => ?_)
    · have qc37 : 1 = 0 := (wn_eq (a := 1) (b := 0) rfl rfl (by omega) (by omega)).mp c37
      exact absurd qc37 (by omega)
    · have qc37 : ¬ 1 = 0 := fun z => c37 ((wn_eq (a := 1) (b := 0) rfl rfl (by omega) (by omega)).mpr z)
      refine lv_iconst (v := (-1)) hx hb dX5_way_40 (by decide) ?_
      exact w_iret hx hb hr hlocks hK hP hS ⟨by subst_vars; rfl, by subst_vars; rfl, by subst_vars; rfl, by subst_vars; rfl⟩ dX5_way_41
  · have qc7 : ¬ 0 = 0 := fun z => c7 ((wn_eq (a := 0) (b := 0) rfl rfl (by omega) (by omega)).mpr z)
    exact absurd qc7 (by omega)

set_option maxHeartbeats 4000000 in
set_option maxRecDepth 100000 in
/-- X5_way -/
theorem c_X5_way_f2 (l : Launch) (nW : Nat) (D : va_G) (cA : Nat → ClassId) (ad : Nat → Nat) (hi : inj nW ad) (hNW : 114 ≤ nW) (I : SI) (J : SJ) (X : SX) (sz : Nat) (r k pl wh : Int32) (hp : isPairF r k = 1) (hpl : pl < 0) : Met l yX5_way wsX5_way ({ frames := 3, cells := 0, slots := 0, locals := 75 }) (va_Pc [.ref (ad 102), .int (r), .int (k), .int (pl), .int (wh)] (wPre nW D cA ad I J X sz)) (qI nW D cA ad sz (-1) (st2 I 102 14 1) J X) 0 0 (fr nW ad sz) := by
  refine Met.ofW (cc := cX5_way) (maxL := 9) (ret := (some .int)) (by decide) rfl ?_
  intro p e s m args below meth c s₁ B hml hv
  obtain ⟨rfl, rfl, hP, hK⟩ := hv
  have hx := B.exec
  have hb := B.bytes
  have hr := B.returns
  have hts := atoms_spec (ws := wsX5_way) B.pre
  have hown : s.vm.findClass RX5 = some m.cls := findClass_of_methodNamed B.named
  have hlocks := B.notSynchronized
  have hS : va_S (fr nW ad s.heap.size) s.heap s.heap [] := va_S.rf
  have hA : ∀ k, k < nW → fr nW ad s.heap.size (ad k) := fr_ad
  have hl := lv_entry ([.ref (ad 102), .int (r), .int (k), .int (pl), .int (wh)]) (n := 9) (Nat.le_of_ble_eq_true rfl)
  rw [lg_entry_eq]
  generalize (lg_sl ([.ref (ad 102), .int (r), .int (k), .int (pl), .int (wh)]) ++ List.replicate (9 - (lg_sl ([.ref (ad 102), .int (r), .int (k), .int (pl), .int (wh)])).length) Slot.unset).toArray = ls at hl ⊢
  have hl : lv_has ls 9 [(0, .ref (ad 102)), (1, .int (r)), (2, .int (k)), (3, .int (pl)), (4, .int (wh))] := hl
  have hS0 := hS
  suffices K : ∀ (H : Heap) (locs : List Loc), WP nW D cA ad I J X H → va_S (fr nW ad s.heap.size) s.heap H locs → W p l e (headSpec wsX5_way ({ frames := 3, cells := 0, slots := 0, locals := 75 })).room s m ([.ref (ad 102), .int (r), .int (k), .int (pl), .int (wh)] : List Value).toArray below meth c H locs 0 0 (MQ below (qI nW D cA ad s.heap.size (-1) (st2 I 102 14 1) J X) ([.ref (ad 102), .int (r), .int (k), .int (pl), .int (wh)] : List Value).toArray s 0 0 (fr nW ad s.heap.size)) (F0 m 0 ls []) from K _ _ hP hS
  clear hP hS hS0
  intro H locs hP hS
  refine lv_aload_n hx hb dX5_way_0 rfl (lv_at hl 0 rfl) ?_
  refine lv_aload_n hx hb dX5_way_1 rfl (lv_at hl 0 rfl) ?_
  refine lv_iload_n hx hb dX5_way_2 rfl (lv_at hl 1 rfl) ?_
  refine lv_iload_n hx hb dX5_way_3 rfl (lv_at hl 2 rfl) ?_
  refine w_calli (va_runV (As := [.int (r), .int (k)]) (rest := [.ref (ad 102)]) ⟨hx, hb, hml, hown, hts⟩ (c_X5_isPair l nW D cA ad hi hNW I J X H.size r k) (cwV 2 hts gX5_way_X5_isPair rfl rfl rfl (by decide +kernel) ⟨Nat.le_of_ble_eq_true rfl, Nat.le_of_ble_eq_true rfl⟩) (w_preV hK hP 102 (by omega) ⟨rfl, rfl⟩ rfl) rfl rfl hl.1 rfl (lv_room (Nat.le_of_ble_eq_true rfl)) dX5_way_4 ⟨Nat.le_of_ble_eq_true rfl, Nat.le_of_ble_eq_true rfl⟩) hS (fun H locs hP hS => ?_)
  refine w_topN (a := 1) hp ?_
  refine lv_if_eq (tgt := 14) hx hb dX5_way_7 (by decide) (fun c7 => ?_) (fun c7 => ?_)
  · have qc7 : 1 = 0 := (wn_eq (a := 1) (b := 0) rfl rfl (by omega) (by omega)).mp c7
    exact absurd qc7 (by omega)
  · have qc7 : ¬ 1 = 0 := fun z => c7 ((wn_eq (a := 1) (b := 0) rfl rfl (by omega) (by omega)).mpr z)
    refine lv_iload_n hx hb dX5_way_10 rfl (lv_at hl 3 rfl) ?_
    refine lv_if_ge (tgt := 18) hx hb dX5_way_11 (by decide) (fun c11 => ?_) (fun c11 => ?_)
    · exact absurd hpl (by rw [Int32.not_lt]; exact c11)
    · refine lv_iconst (v := 1) hx hb dX5_way_14 (by decide) ?_
      refine lv_goto (tgt := 34) hx hb dX5_way_15 (by decide) ?_
      refine w_calli (va_runV (As := [.int (1)]) (rest := []) ⟨hx, hb, hml, hown, hts⟩ (c_X5_fails l nW D cA ad hi hNW I J X H.size 1) (cwV 1 hts gX5_way_X5_fails rfl rfl rfl (by decide +kernel) ⟨Nat.le_of_ble_eq_true rfl, Nat.le_of_ble_eq_true rfl⟩) (w_preV hK hP 102 (by omega) ⟨rfl, rfl⟩ rfl) rfl rfl hl.1 rfl (lv_room (Nat.le_of_ble_eq_true rfl)) dX5_way_34 ⟨Nat.le_of_ble_eq_true rfl, Nat.le_of_ble_eq_true rfl⟩) hS (fun H locs hP hS => ?_)
      refine w_topN (a := 1) (by decide) ?_
      refine lv_if_eq (tgt := 42) hx hb dX5_way_37 (by decide) (fun c37 => ?_) (fun c37 => ?_)
      · have qc37 : 1 = 0 := (wn_eq (a := 1) (b := 0) rfl rfl (by omega) (by omega)).mp c37
        exact absurd qc37 (by omega)
      · have qc37 : ¬ 1 = 0 := fun z => c37 ((wn_eq (a := 1) (b := 0) rfl rfl (by omega) (by omega)).mpr z)
        refine lv_iconst (v := (-1)) hx hb dX5_way_40 (by decide) ?_
        exact w_iret hx hb hr hlocks hK hP hS ⟨by subst_vars; rfl, by subst_vars; rfl, by subst_vars; rfl, by subst_vars; rfl⟩ dX5_way_41

set_option maxHeartbeats 4000000 in
set_option maxRecDepth 100000 in
/-- X5_way -/
theorem c_X5_way_f3 (l : Launch) (nW : Nat) (D : va_G) (cA : Nat → ClassId) (ad : Nat → Nat) (hi : inj nW ad) (hNW : 114 ≤ nW) (I : SI) (J : SJ) (X : SX) (sz : Nat) (r k pl wh : Int32) (hp : isPairF r k = 1) (hpl : ¬ pl < 0) (hm : inF wh 0 2 = 0) : Met l yX5_way wsX5_way ({ frames := 3, cells := 0, slots := 0, locals := 75 }) (va_Pc [.ref (ad 102), .int (r), .int (k), .int (pl), .int (wh)] (wPre nW D cA ad I J X sz)) (qI nW D cA ad sz (-1) (st2 I 102 14 2) J X) 0 0 (fr nW ad sz) := by
  refine Met.ofW (cc := cX5_way) (maxL := 9) (ret := (some .int)) (by decide) rfl ?_
  intro p e s m args below meth c s₁ B hml hv
  obtain ⟨rfl, rfl, hP, hK⟩ := hv
  have hx := B.exec
  have hb := B.bytes
  have hr := B.returns
  have hts := atoms_spec (ws := wsX5_way) B.pre
  have hown : s.vm.findClass RX5 = some m.cls := findClass_of_methodNamed B.named
  have hlocks := B.notSynchronized
  have hS : va_S (fr nW ad s.heap.size) s.heap s.heap [] := va_S.rf
  have hA : ∀ k, k < nW → fr nW ad s.heap.size (ad k) := fr_ad
  have hl := lv_entry ([.ref (ad 102), .int (r), .int (k), .int (pl), .int (wh)]) (n := 9) (Nat.le_of_ble_eq_true rfl)
  rw [lg_entry_eq]
  generalize (lg_sl ([.ref (ad 102), .int (r), .int (k), .int (pl), .int (wh)]) ++ List.replicate (9 - (lg_sl ([.ref (ad 102), .int (r), .int (k), .int (pl), .int (wh)])).length) Slot.unset).toArray = ls at hl ⊢
  have hl : lv_has ls 9 [(0, .ref (ad 102)), (1, .int (r)), (2, .int (k)), (3, .int (pl)), (4, .int (wh))] := hl
  have hS0 := hS
  suffices K : ∀ (H : Heap) (locs : List Loc), WP nW D cA ad I J X H → va_S (fr nW ad s.heap.size) s.heap H locs → W p l e (headSpec wsX5_way ({ frames := 3, cells := 0, slots := 0, locals := 75 })).room s m ([.ref (ad 102), .int (r), .int (k), .int (pl), .int (wh)] : List Value).toArray below meth c H locs 0 0 (MQ below (qI nW D cA ad s.heap.size (-1) (st2 I 102 14 2) J X) ([.ref (ad 102), .int (r), .int (k), .int (pl), .int (wh)] : List Value).toArray s 0 0 (fr nW ad s.heap.size)) (F0 m 0 ls []) from K _ _ hP hS
  clear hP hS hS0
  intro H locs hP hS
  refine lv_aload_n hx hb dX5_way_0 rfl (lv_at hl 0 rfl) ?_
  refine lv_aload_n hx hb dX5_way_1 rfl (lv_at hl 0 rfl) ?_
  refine lv_iload_n hx hb dX5_way_2 rfl (lv_at hl 1 rfl) ?_
  refine lv_iload_n hx hb dX5_way_3 rfl (lv_at hl 2 rfl) ?_
  refine w_calli (va_runV (As := [.int (r), .int (k)]) (rest := [.ref (ad 102)]) ⟨hx, hb, hml, hown, hts⟩ (c_X5_isPair l nW D cA ad hi hNW I J X H.size r k) (cwV 2 hts gX5_way_X5_isPair rfl rfl rfl (by decide +kernel) ⟨Nat.le_of_ble_eq_true rfl, Nat.le_of_ble_eq_true rfl⟩) (w_preV hK hP 102 (by omega) ⟨rfl, rfl⟩ rfl) rfl rfl hl.1 rfl (lv_room (Nat.le_of_ble_eq_true rfl)) dX5_way_4 ⟨Nat.le_of_ble_eq_true rfl, Nat.le_of_ble_eq_true rfl⟩) hS (fun H locs hP hS => ?_)
  refine w_topN (a := 1) hp ?_
  refine lv_if_eq (tgt := 14) hx hb dX5_way_7 (by decide) (fun c7 => ?_) (fun c7 => ?_)
  · have qc7 : 1 = 0 := (wn_eq (a := 1) (b := 0) rfl rfl (by omega) (by omega)).mp c7
    exact absurd qc7 (by omega)
  · have qc7 : ¬ 1 = 0 := fun z => c7 ((wn_eq (a := 1) (b := 0) rfl rfl (by omega) (by omega)).mpr z)
    refine lv_iload_n hx hb dX5_way_10 rfl (lv_at hl 3 rfl) ?_
    refine lv_if_ge (tgt := 18) hx hb dX5_way_11 (by decide) (fun c11 => ?_) (fun c11 => ?_)
    · refine lv_aload_n hx hb dX5_way_18 rfl (lv_at hl 0 rfl) ?_
      refine lv_iload hx hb dX5_way_19 (lv_at hl 4 rfl) ?_
      refine lv_iconst (v := 0) hx hb dX5_way_21 (by decide) ?_
      refine lv_iconst (v := 2) hx hb dX5_way_22 (by decide) ?_
      refine w_calli (va_runV (As := [.int (wh), .int (0), .int (2)]) (rest := [.ref (ad 102)]) ⟨hx, hb, hml, hown, hts⟩ (c_X5_in l nW D cA ad hi hNW I J X H.size wh 0 2) (cwV 3 hts gX5_way_X5_in rfl rfl rfl (by decide +kernel) ⟨Nat.le_of_ble_eq_true rfl, Nat.le_of_ble_eq_true rfl⟩) (w_preV hK hP 102 (by omega) ⟨rfl, rfl⟩ rfl) rfl rfl hl.1 rfl (lv_room (Nat.le_of_ble_eq_true rfl)) dX5_way_23 ⟨Nat.le_of_ble_eq_true rfl, Nat.le_of_ble_eq_true rfl⟩) hS (fun H locs hP hS => ?_)
      refine w_topN (a := 0) hm ?_
      refine lv_if_eq (tgt := 33) hx hb dX5_way_26 (by decide) (fun c26 => ?_) (fun c26 => ?_)
      · have qc26 : 0 = 0 := (wn_eq (a := 0) (b := 0) rfl rfl (by omega) (by omega)).mp c26
        refine lv_iconst (v := 2) hx hb dX5_way_33 (by decide) ?_
        refine w_calli (va_runV (As := [.int (2)]) (rest := []) ⟨hx, hb, hml, hown, hts⟩ (c_X5_fails l nW D cA ad hi hNW I J X H.size 2) (cwV 1 hts gX5_way_X5_fails rfl rfl rfl (by decide +kernel) ⟨Nat.le_of_ble_eq_true rfl, Nat.le_of_ble_eq_true rfl⟩) (w_preV hK hP 102 (by omega) ⟨rfl, rfl⟩ rfl) rfl rfl hl.1 rfl (lv_room (Nat.le_of_ble_eq_true rfl)) dX5_way_34 ⟨Nat.le_of_ble_eq_true rfl, Nat.le_of_ble_eq_true rfl⟩) hS (fun H locs hP hS => ?_)
        refine w_topN (a := 1) (by decide) ?_
        refine lv_if_eq (tgt := 42) hx hb dX5_way_37 (by decide) (fun c37 => ?_) (fun c37 => ?_)
        · have qc37 : 1 = 0 := (wn_eq (a := 1) (b := 0) rfl rfl (by omega) (by omega)).mp c37
          exact absurd qc37 (by omega)
        · have qc37 : ¬ 1 = 0 := fun z => c37 ((wn_eq (a := 1) (b := 0) rfl rfl (by omega) (by omega)).mpr z)
          refine lv_iconst (v := (-1)) hx hb dX5_way_40 (by decide) ?_
          exact w_iret hx hb hr hlocks hK hP hS ⟨by subst_vars; rfl, by subst_vars; rfl, by subst_vars; rfl, by subst_vars; rfl⟩ dX5_way_41
      · have qc26 : ¬ 0 = 0 := fun z => c26 ((wn_eq (a := 0) (b := 0) rfl rfl (by omega) (by omega)).mpr z)
        exact absurd qc26 (by omega)
    · exact absurd (by rw [Int32.not_lt] at hpl; exact hpl) c11
