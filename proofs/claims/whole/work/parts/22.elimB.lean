
/-- row i less f times row k, from column k on -/
def elJ (X : SX) (k i : Nat) (f : UInt64) : Nat → SX
  | 0 => X
  | j + 1 => if j < k then elJ X k i f j else st2 (elJ X k i f j) (89 + i) j (ms (elJ X k i f j (89 + i) j) f (elJ X k i f j (89 + k) j))
theorem elJ_k {X : SX} {k i : Nat} {f : UInt64} : ∀ j, j ≤ k → elJ X k i f j = X
  | 0, _ => rfl
  | j + 1, h => by unfold elJ; rw [if_pos (by omega : j < k)]; exact elJ_k j (by omega)
def elf (X : SX) (k i : Nat) : UInt64 := FP.ddiv (X (89 + i) k) (X (89 + k) k)
def elS (X : SX) (k i : Nat) : SX := st2 (elJ X k i (elf X k i) 9) 98 i (ms (elJ X k i (elf X k i) 9 98 i) (elf X k i) (elJ X k i (elf X k i) 9 98 k))
def elI (X : SX) (k : Nat) : Nat → SX
  | 0 => X
  | i + 1 => if i ≤ k then elI X k i else elS (elI X k i) k i
theorem elI_k {X : SX} {k : Nat} : ∀ i, i ≤ k + 1 → elI X k i = X
  | 0, _ => rfl
  | i + 1, h => by unfold elI; rw [if_pos (by omega : i ≤ k)]; exact elI_k i (by omega)
def EsOK (X : SX) (k i : Nat) : Prop := dvOK (X (89 + i) k) (X (89 + k) k) ∧ (∀ j, k ≤ j → j < 9 → msOK (elJ X k i (elf X k i) j (89 + i) j) (elf X k i) (elJ X k i (elf X k i) j (89 + k) j)) ∧ msOK (elJ X k i (elf X k i) 9 98 i) (elf X k i) (elJ X k i (elf X k i) 9 98 k)
def ElOK (X : SX) (k : Nat) : Prop := ∀ i, k < i → i < 9 → EsOK (elI X k i) k i

theorem inX0_eliminateBehind_X0 : ∀ w ∈ wsX00, w ∈ wsX0_eliminateBehind := by decide +kernel
set_option maxHeartbeats 4000000 in
set_option maxRecDepth 100000 in
theorem lp_X0_el_B {p : Program} {l : Launch} {e : Env} {s : State} {m : MethodId} {args : Array Value} {below : List Frame} {meth : Method} {c : Code} {Q : State → Prop} {nW : Nat} {D : va_G} {cA : Nat → ClassId} {ad : Nat → Nat} (hi : inj nW ad) (hNW : 102 ≤ nW) (hx : p.tables.exec = Jvm.exec) (hb : c.code = cX0_eliminateBehind) (hml : c.maxLocals = 6) (hown : s.vm.findClass RX0 = some m.cls) (hts : ∀ w ∈ wsX0_eliminateBehind, w.before args s = true) (hK : WK D cA s) (I : SI) (J : SJ) (X : SX) (Y : SX) (k i : Nat) (hk9 : k < 9) (hi9 : i < 9) (hE : EsOK Y k i) (kx :  ∀ (H : Heap) (locs : List Loc), WP nW D cA ad I J (elJ Y k i (elf Y k i) (9)) H → va_S (fr nW ad s.heap.size) s.heap H locs → ∀ (ls : Array Slot), lv_has ls 6 [(3, .double (elf Y k i)), (2, .int (nI (i))), (1, .int (nI (k))), (0, .ref (ad 87))] → W p l e (headSpec wsX0_eliminateBehind ({ frames := 1, cells := 0, slots := 0, locals := 23 })).room s m args below meth c H locs 0 0 Q (F0 m 69 ls [])) : ∀ (t j : Nat), j + t = 9 → (hq : k ≤ j) → ∀ (H : Heap) (locs : List Loc), WP nW D cA ad I J (elJ Y k i (elf Y k i) (j)) H → va_S (fr nW ad s.heap.size) s.heap H locs → ∀ (ls : Array Slot), lv_has ls 6 [(5, .int (nI (j))), (3, .double (elf Y k i)), (2, .int (nI (i))), (1, .int (nI (k))), (0, .ref (ad 87))] → W p l e (headSpec wsX0_eliminateBehind ({ frames := 1, cells := 0, slots := 0, locals := 23 })).room s m args below meth c H locs 0 0 Q (F0 m 33 ls []) := by
  have hA : ∀ k, k < nW → fr nW ad s.heap.size (ad k) := fr_ad
  intro t
  induction t with
  | zero =>
    intro j hj hq H locs hP hS ls hl
    obtain rfl : 9 = j := by omega
    refine lv_iload hx hb dX0_eliminateBehind_33 (lv_at hl 0 rfl) ?_
    refine lv_bipush (v := 9) hx hb dX0_eliminateBehind_35 (by decide) ?_
    refine lv_icmp_ge (tgt := 69) hx hb dX0_eliminateBehind_37 (by decide) (fun cc => ?_) (fun cc => ?_)
    · have qcc : 9 ≤ 9 := (wn_le (a := 9) (b := 9) rfl rfl (by omega) (by omega)).mp cc
      exact kx  H locs hP hS ls (lv_sub hl [1, 2, 3, 4] rfl)
    · have qcc : ¬ 9 ≤ 9 := fun z => cc ((wn_le (a := 9) (b := 9) rfl rfl (by omega) (by omega)).mpr z)
      exact absurd qcc (by omega)
  | succ t ih =>
    intro j hj hq H locs hP hS ls hl
    refine lv_iload hx hb dX0_eliminateBehind_33 (lv_at hl 0 rfl) ?_
    refine lv_bipush (v := 9) hx hb dX0_eliminateBehind_35 (by decide) ?_
    refine lv_icmp_ge (tgt := 69) hx hb dX0_eliminateBehind_37 (by decide) (fun cc => ?_) (fun cc => ?_)
    · have qcc : 9 ≤ j := (wn_le (a := 9) (b := j) rfl rfl (by omega) (by omega)).mp cc
      exact absurd qcc (by omega)
    · have qcc : ¬ 9 ≤ j := fun z => cc ((wn_le (a := 9) (b := j) rfl rfl (by omega) (by omega)).mpr z)
      refine lv_aload_n hx hb dX0_eliminateBehind_40 rfl (lv_at hl 4 rfl) ?_
      refine w_get (C := RX0) (T := TX0) (N := 3) (v := .ref (ad 88)) (index := 11) hx hb hts inX0_eliminateBehind_X0 hown hK hP 87 0 ⟨rfl, rfl, by decide⟩ (by omega) rfl (List.mem_of_getElem? (i := 1) rfl) (fun _ h9 => h9) dX0_eliminateBehind_41 ?_
      refine lv_iload_n hx hb dX0_eliminateBehind_44 rfl (lv_at hl 2 rfl) ?_
      refine w_aald hx hb hK hP 88 (i) 89 6 ⟨rfl, (by show i < 9; omega), rfl, rfl, by decide, by decide⟩ (by omega) rfl dX0_eliminateBehind_45 ?_
      refine lv_iload hx hb dX0_eliminateBehind_46 (lv_at hl 0 rfl) ?_
      refine lv_dup2_11 hx hb dX0_eliminateBehind_48 rfl rfl ?_
      refine w_dald hx hb hK hP (89 + i) (j) (k_matR (by omega) (by omega)) (by omega) rfl dX0_eliminateBehind_49 ?_
      refine lv_dload_n hx hb dX0_eliminateBehind_50 rfl (lv_at hl 1 rfl) ?_
      refine lv_aload_n hx hb dX0_eliminateBehind_51 rfl (lv_at hl 4 rfl) ?_
      refine w_get (C := RX0) (T := TX0) (N := 3) (v := .ref (ad 88)) (index := 11) hx hb hts inX0_eliminateBehind_X0 hown hK hP 87 0 ⟨rfl, rfl, by decide⟩ (by omega) rfl (List.mem_of_getElem? (i := 1) rfl) (fun _ h9 => h9) dX0_eliminateBehind_52 ?_
      refine lv_iload_n hx hb dX0_eliminateBehind_55 rfl (lv_at hl 3 rfl) ?_
      refine w_aald hx hb hK hP 88 (k) 89 6 ⟨rfl, (by show k < 9; omega), rfl, rfl, by decide, by decide⟩ (by omega) rfl dX0_eliminateBehind_56 ?_
      refine lv_iload hx hb dX0_eliminateBehind_57 (lv_at hl 0 rfl) ?_
      refine w_dald hx hb hK hP (89 + k) (j) (k_matR (by omega) (by omega)) (by omega) rfl dX0_eliminateBehind_59 ?_
      refine lv_dmul hx hb dX0_eliminateBehind_60 (hE.2.1 j hq (by omega)).1 ?_
      refine lv_dsub hx hb dX0_eliminateBehind_61 (hE.2.1 j hq (by omega)).2 ?_
      refine w_dast (v := FP.dsub ((elJ Y k i (elf Y k i) (j)) (89 + i) (j)) (FP.dmul (elf Y k i) ((elJ Y k i (elf Y k i) (j)) (89 + k) (j)))) hx hb hK hP hi hA hS (89 + i) (j) (k_matR (by omega) (by omega)) (by omega) rfl dX0_eliminateBehind_62 (fun H locs hP hS => ?_)
      obtain ⟨X_1, eX_1⟩ : ∃ y, y = st2 (elJ Y k i (elf Y k i) (j)) (89 + i) (j) (FP.dsub ((elJ Y k i (elf Y k i) (j)) (89 + i) (j)) (FP.dmul (elf Y k i) ((elJ Y k i (elf Y k i) (j)) (89 + k) (j)))) := ⟨_, rfl⟩
      have hP : WP nW D cA ad I J X_1 H := by rw [eX_1]; exact hP
      refine lv_iinc (v := nI (j + 1)) (lv' := [(5, .int (nI (j + 1))), (3, .double (elf Y k i)), (2, .int (nI (i))), (1, .int (nI (k))), (0, .ref (ad 87))]) hx hb dX0_eliminateBehind_63 hl (k := 0) rfl (wn_inc rfl) (by decide) rfl (fun ls hl => ?_)
      refine lv_goto (tgt := 33) hx hb dX0_eliminateBehind_66 (by decide) ?_
      exact ih (j + 1) (by omega) (by omega) H locs (w_cong (I1 := I) (J1 := J) (X1 := (elJ Y k i (elf Y k i) ((j + 1)))) hP ⟨rfl, rfl, (by subst_vars; first | rfl | (simp only [elJ, ms, if_neg (by omega : ¬ j < k)]; done))⟩) hS ls (lv_cong (l := [(5, .int (nI (j + 1))), (3, .double (elf Y k i)), (2, .int (nI (i))), (1, .int (nI (k))), (0, .ref (ad 87))]) (l' := [(5, .int (nI ((j + 1)))), (3, .double (elf Y k i)), (2, .int (nI (i))), (1, .int (nI (k))), (0, .ref (ad 87))]) (lv_sub hl [0, 1, 2, 3, 4] rfl) (by subst_vars; first | rfl | (simp only [elJ, ms, if_neg (by omega : ¬ j < k)]; done)))

set_option maxHeartbeats 4000000 in
set_option maxRecDepth 100000 in
theorem lp_X0_el_A {p : Program} {l : Launch} {e : Env} {s : State} {m : MethodId} {args : Array Value} {below : List Frame} {meth : Method} {c : Code} {Q : State → Prop} {nW : Nat} {D : va_G} {cA : Nat → ClassId} {ad : Nat → Nat} (hi : inj nW ad) (hNW : 102 ≤ nW) (hx : p.tables.exec = Jvm.exec) (hb : c.code = cX0_eliminateBehind) (hml : c.maxLocals = 6) (hown : s.vm.findClass RX0 = some m.cls) (hts : ∀ w ∈ wsX0_eliminateBehind, w.before args s = true) (hK : WK D cA s) (I : SI) (J : SJ) (X : SX) (k : Nat) (hk9 : k < 9) (hE : ElOK X k) (kx :  ∀ (H : Heap) (locs : List Loc), WP nW D cA ad I J (elI X k (9)) H → va_S (fr nW ad s.heap.size) s.heap H locs → ∀ (ls : Array Slot), lv_has ls 6 [(0, .ref (ad 87))] → W p l e (headSpec wsX0_eliminateBehind ({ frames := 1, cells := 0, slots := 0, locals := 23 })).room s m args below meth c H locs 0 0 Q (F0 m 92 ls [])) : ∀ (t i : Nat), i + t = 9 → (hq : k < i) → ∀ (H : Heap) (locs : List Loc), WP nW D cA ad I J (elI X k (i)) H → va_S (fr nW ad s.heap.size) s.heap H locs → ∀ (ls : Array Slot), lv_has ls 6 [(2, .int (nI (i))), (1, .int (nI (k))), (0, .ref (ad 87))] → W p l e (headSpec wsX0_eliminateBehind ({ frames := 1, cells := 0, slots := 0, locals := 23 })).room s m args below meth c H locs 0 0 Q (F0 m 4 ls []) := by
  have hA : ∀ k, k < nW → fr nW ad s.heap.size (ad k) := fr_ad
  intro t
  induction t with
  | zero =>
    intro i hj hq H locs hP hS ls hl
    obtain rfl : 9 = i := by omega
    refine lv_iload_n hx hb dX0_eliminateBehind_4 rfl (lv_at hl 0 rfl) ?_
    refine lv_bipush (v := 9) hx hb dX0_eliminateBehind_5 (by decide) ?_
    refine lv_icmp_ge (tgt := 92) hx hb dX0_eliminateBehind_7 (by decide) (fun cc => ?_) (fun cc => ?_)
    · have qcc : 9 ≤ 9 := (wn_le (a := 9) (b := 9) rfl rfl (by omega) (by omega)).mp cc
      exact kx  H locs hP hS ls (lv_sub hl [2] rfl)
    · have qcc : ¬ 9 ≤ 9 := fun z => cc ((wn_le (a := 9) (b := 9) rfl rfl (by omega) (by omega)).mpr z)
      exact absurd qcc (by omega)
  | succ t ih =>
    intro i hj hq H locs hP hS ls hl
    refine lv_iload_n hx hb dX0_eliminateBehind_4 rfl (lv_at hl 0 rfl) ?_
    refine lv_bipush (v := 9) hx hb dX0_eliminateBehind_5 (by decide) ?_
    refine lv_icmp_ge (tgt := 92) hx hb dX0_eliminateBehind_7 (by decide) (fun cc => ?_) (fun cc => ?_)
    · have qcc : 9 ≤ i := (wn_le (a := 9) (b := i) rfl rfl (by omega) (by omega)).mp cc
      exact absurd qcc (by omega)
    · have qcc : ¬ 9 ≤ i := fun z => cc ((wn_le (a := 9) (b := i) rfl rfl (by omega) (by omega)).mpr z)
      refine lv_aload_n hx hb dX0_eliminateBehind_10 rfl (lv_at hl 2 rfl) ?_
      refine w_get (C := RX0) (T := TX0) (N := 3) (v := .ref (ad 88)) (index := 11) hx hb hts inX0_eliminateBehind_X0 hown hK hP 87 0 ⟨rfl, rfl, by decide⟩ (by omega) rfl (List.mem_of_getElem? (i := 1) rfl) (fun _ h9 => h9) dX0_eliminateBehind_11 ?_
      refine lv_iload_n hx hb dX0_eliminateBehind_14 rfl (lv_at hl 0 rfl) ?_
      refine w_aald hx hb hK hP 88 (i) 89 6 ⟨rfl, (by show i < 9; omega), rfl, rfl, by decide, by decide⟩ (by omega) rfl dX0_eliminateBehind_15 ?_
      refine lv_iload_n hx hb dX0_eliminateBehind_16 rfl (lv_at hl 1 rfl) ?_
      refine w_dald hx hb hK hP (89 + i) (k) (k_matR (by omega) (by omega)) (by omega) rfl dX0_eliminateBehind_17 ?_
      refine lv_aload_n hx hb dX0_eliminateBehind_18 rfl (lv_at hl 2 rfl) ?_
      refine w_get (C := RX0) (T := TX0) (N := 3) (v := .ref (ad 88)) (index := 11) hx hb hts inX0_eliminateBehind_X0 hown hK hP 87 0 ⟨rfl, rfl, by decide⟩ (by omega) rfl (List.mem_of_getElem? (i := 1) rfl) (fun _ h9 => h9) dX0_eliminateBehind_19 ?_
      refine lv_iload_n hx hb dX0_eliminateBehind_22 rfl (lv_at hl 1 rfl) ?_
      refine w_aald hx hb hK hP 88 (k) 89 6 ⟨rfl, (by show k < 9; omega), rfl, rfl, by decide, by decide⟩ (by omega) rfl dX0_eliminateBehind_23 ?_
      refine lv_iload_n hx hb dX0_eliminateBehind_24 rfl (lv_at hl 1 rfl) ?_
      refine w_dald hx hb hK hP (89 + k) (k) (k_matR (by omega) (by omega)) (by omega) rfl dX0_eliminateBehind_25 ?_
      refine w_calld (va_runS (As := [.double ((elI X k (i)) (89 + i) (k)), .double ((elI X k (i)) (89 + k) (k))]) (rest := []) ⟨hx, hb, hml, hown, hts⟩ (c_X0_quotient l nW D cA ad hi hNW I J (elI X k (i)) H.size ((elI X k (i)) (89 + i) (k)) ((elI X k (i)) (89 + k) (k)) (hE i hq (by omega)).1) (va_cwS 2 hts gX0_eliminateBehind_X0_quotient rfl rfl rfl (by decide +kernel) ⟨Nat.le_of_ble_eq_true rfl, Nat.le_of_ble_eq_true rfl⟩) (w_preS hK hP) rfl rfl hl.1 rfl (lv_room (Nat.le_of_ble_eq_true rfl)) dX0_eliminateBehind_26 ⟨Nat.le_of_ble_eq_true rfl, Nat.le_of_ble_eq_true rfl⟩) hS (fun H locs hP hS => ?_)
      refine lv_dstore_n (lv' := [(3, .double (FP.ddiv ((elI X k (i)) (89 + i) (k)) ((elI X k (i)) (89 + k) (k)))), (2, .int (nI (i))), (1, .int (nI (k))), (0, .ref (ad 87))]) hx hb dX0_eliminateBehind_29 rfl hl (by decide) rfl (fun ls hl => ?_)
      refine lv_iload_n hx hb dX0_eliminateBehind_30 rfl (lv_at hl 2 rfl) ?_
      refine lv_istore (lv' := [(5, .int (nI (k))), (3, .double (FP.ddiv ((elI X k (i)) (89 + i) (k)) ((elI X k (i)) (89 + k) (k)))), (2, .int (nI (i))), (1, .int (nI (k))), (0, .ref (ad 87))]) hx hb dX0_eliminateBehind_31 hl (by decide) rfl (fun ls hl => ?_)
      refine lp_X0_el_B hi hNW hx hb hml hown hts hK I J X (elI X k i) k i hk9 (by omega) (hE i hq (by omega)) (fun  H locs hP hS ls hl => ?_) ((9 - k)) (k) (by omega) (by omega) H locs (w_cong (I1 := I) (J1 := J) (X1 := (elJ (elI X k i) k i (elf (elI X k i) k i) (k))) hP ⟨rfl, rfl, (by first | rfl | exact (elJ_k k (Nat.le_refl k)).symm)⟩) hS ls (lv_cong (l := [(5, .int (nI (k))), (3, .double (FP.ddiv ((elI X k (i)) (89 + i) (k)) ((elI X k (i)) (89 + k) (k)))), (2, .int (nI (i))), (1, .int (nI (k))), (0, .ref (ad 87))]) (l' := [(5, .int (nI (k))), (3, .double (elf (elI X k i) k i)), (2, .int (nI (i))), (1, .int (nI (k))), (0, .ref (ad 87))]) (lv_sub hl [0, 1, 2, 3, 4] rfl) (by first | rfl | exact (elJ_k k (Nat.le_refl k)).symm))
      refine lv_aload_n hx hb dX0_eliminateBehind_69 rfl (lv_at hl 3 rfl) ?_
      refine w_get (C := RX0) (T := TX0) (N := 3) (v := .ref (ad 98)) (index := 16) hx hb hts inX0_eliminateBehind_X0 hown hK hP 87 1 ⟨rfl, rfl, by decide⟩ (by omega) rfl (List.mem_of_getElem? (i := 2) rfl) (fun _ h9 => h9) dX0_eliminateBehind_70 ?_
      refine lv_iload_n hx hb dX0_eliminateBehind_73 rfl (lv_at hl 1 rfl) ?_
      refine lv_dup2_11 hx hb dX0_eliminateBehind_74 rfl rfl ?_
      refine w_dald hx hb hK hP 98 (i) ⟨rfl, (by show i < 9; omega)⟩ (by omega) rfl dX0_eliminateBehind_75 ?_
      refine lv_dload_n hx hb dX0_eliminateBehind_76 rfl (lv_at hl 0 rfl) ?_
      refine lv_aload_n hx hb dX0_eliminateBehind_77 rfl (lv_at hl 3 rfl) ?_
      refine w_get (C := RX0) (T := TX0) (N := 3) (v := .ref (ad 98)) (index := 16) hx hb hts inX0_eliminateBehind_X0 hown hK hP 87 1 ⟨rfl, rfl, by decide⟩ (by omega) rfl (List.mem_of_getElem? (i := 2) rfl) (fun _ h9 => h9) dX0_eliminateBehind_78 ?_
      refine lv_iload_n hx hb dX0_eliminateBehind_81 rfl (lv_at hl 2 rfl) ?_
      refine w_dald hx hb hK hP 98 (k) ⟨rfl, (by show k < 9; omega)⟩ (by omega) rfl dX0_eliminateBehind_82 ?_
      refine lv_dmul hx hb dX0_eliminateBehind_83 (hE i hq (by omega)).2.2.1 ?_
      refine lv_dsub hx hb dX0_eliminateBehind_84 (hE i hq (by omega)).2.2.2 ?_
      refine w_dast (v := FP.dsub ((elJ (elI X k i) k i (elf (elI X k i) k i) (9)) 98 (i)) (FP.dmul (elf (elI X k i) k i) ((elJ (elI X k i) k i (elf (elI X k i) k i) (9)) 98 (k)))) hx hb hK hP hi hA hS 98 (i) ⟨rfl, (by show i < 9; omega)⟩ (by omega) rfl dX0_eliminateBehind_85 (fun H locs hP hS => ?_)
      obtain ⟨X_1, eX_1⟩ : ∃ y, y = st2 (elJ (elI X k i) k i (elf (elI X k i) k i) (9)) 98 (i) (FP.dsub ((elJ (elI X k i) k i (elf (elI X k i) k i) (9)) 98 (i)) (FP.dmul (elf (elI X k i) k i) ((elJ (elI X k i) k i (elf (elI X k i) k i) (9)) 98 (k)))) := ⟨_, rfl⟩
      have hP : WP nW D cA ad I J X_1 H := by rw [eX_1]; exact hP
      refine lv_iinc (v := nI (i + 1)) (lv' := [(2, .int (nI (i + 1))), (3, .double (elf (elI X k i) k i)), (1, .int (nI (k))), (0, .ref (ad 87))]) hx hb dX0_eliminateBehind_86 hl (k := 1) rfl (wn_inc rfl) (by decide) rfl (fun ls hl => ?_)
      refine lv_goto (tgt := 4) hx hb dX0_eliminateBehind_89 (by decide) ?_
      exact ih (i + 1) (by omega) (by omega) H locs (w_cong (I1 := I) (J1 := J) (X1 := (elI X k ((i + 1)))) hP ⟨rfl, rfl, (by subst_vars; first | rfl | (simp only [elI, elS, ms, elf, if_neg (by omega : ¬ i ≤ k)]; done))⟩) hS ls (lv_cong (l := [(2, .int (nI (i + 1))), (1, .int (nI (k))), (0, .ref (ad 87))]) (l' := [(2, .int (nI ((i + 1)))), (1, .int (nI (k))), (0, .ref (ad 87))]) (lv_sub hl [0, 2, 3] rfl) (by subst_vars; first | rfl | (simp only [elI, elS, ms, elf, if_neg (by omega : ¬ i ≤ k)]; done)))

set_option maxHeartbeats 4000000 in
set_option maxRecDepth 100000 in
/-- X0_eliminateBehind -/
theorem c_X0_eliminateBehind (l : Launch) (nW : Nat) (D : va_G) (cA : Nat → ClassId) (ad : Nat → Nat) (hi : inj nW ad) (hNW : 102 ≤ nW) (I : SI) (J : SJ) (X : SX) (sz : Nat) (k : Nat) (hk9 : k < 9) (hE : ElOK X k) : Met l yX0_eliminateBehind wsX0_eliminateBehind ({ frames := 1, cells := 0, slots := 0, locals := 23 }) (va_Pc [.ref (ad 87), .int (nI (k))] (wPre nW D cA ad I J X sz)) (qV nW D cA ad sz I J (elI X k 9)) 0 0 (fr nW ad sz) := by
  refine Met.ofW (cc := cX0_eliminateBehind) (maxL := 6) (ret := none) (by decide) rfl ?_
  intro p e s m args below meth c s₁ B hml hv
  obtain ⟨rfl, rfl, hP, hK⟩ := hv
  have hx := B.exec
  have hb := B.bytes
  have hr := B.returns
  have hts := atoms_spec (ws := wsX0_eliminateBehind) B.pre
  have hown : s.vm.findClass RX0 = some m.cls := findClass_of_methodNamed B.named
  have hlocks := B.notSynchronized
  have hS : va_S (fr nW ad s.heap.size) s.heap s.heap [] := va_S.rf
  have hA : ∀ k, k < nW → fr nW ad s.heap.size (ad k) := fr_ad
  have hl := lv_entry ([.ref (ad 87), .int (nI (k))]) (n := 6) (Nat.le_of_ble_eq_true rfl)
  rw [lg_entry_eq]
  generalize (lg_sl ([.ref (ad 87), .int (nI (k))]) ++ List.replicate (6 - (lg_sl ([.ref (ad 87), .int (nI (k))])).length) Slot.unset).toArray = ls at hl ⊢
  have hl : lv_has ls 6 [(0, .ref (ad 87)), (1, .int (nI (k)))] := hl
  have hS0 := hS
  suffices K : ∀ (H : Heap) (locs : List Loc), WP nW D cA ad I J X H → va_S (fr nW ad s.heap.size) s.heap H locs → W p l e (headSpec wsX0_eliminateBehind ({ frames := 1, cells := 0, slots := 0, locals := 23 })).room s m ([.ref (ad 87), .int (nI (k))] : List Value).toArray below meth c H locs 0 0 (MQ below (qV nW D cA ad s.heap.size I J (elI X k 9)) ([.ref (ad 87), .int (nI (k))] : List Value).toArray s 0 0 (fr nW ad s.heap.size)) (F0 m 0 ls []) from K _ _ hP hS
  clear hP hS hS0
  intro H locs hP hS
  refine lv_iload_n hx hb dX0_eliminateBehind_0 rfl (lv_at hl 1 rfl) ?_
  refine lv_iconst (v := 1) hx hb dX0_eliminateBehind_1 (by decide) ?_
  refine w_iaddN (a := k) (b := 1) hx hb rfl rfl dX0_eliminateBehind_2 ?_
  refine lv_istore_n (lv' := [(2, .int (nI (k + 1))), (0, .ref (ad 87)), (1, .int (nI (k)))]) hx hb dX0_eliminateBehind_3 rfl hl (by decide) rfl (fun ls hl => ?_)
  refine lp_X0_el_A hi hNW hx hb hml hown hts hK I J X k hk9 hE (fun  H locs hP hS ls hl => ?_) ((9 - (k + 1))) ((k + 1)) (by omega) (by omega) H locs (w_cong (I1 := I) (J1 := J) (X1 := (elI X k (k + 1))) hP ⟨rfl, rfl, (by first | rfl | exact (elI_k (k + 1) (Nat.le_refl _)).symm | (subst_vars; rfl))⟩) hS ls (lv_sub hl [0, 2, 1] rfl)
  exact w_vret hx hb hr hlocks hK hP hS ⟨by subst_vars; rfl, by subst_vars; rfl, by subst_vars; rfl⟩ dX0_eliminateBehind_92

