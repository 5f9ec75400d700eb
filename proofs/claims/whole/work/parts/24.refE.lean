/-! the reference's share -/
def ptM (I : SI) (r : Nat) (dm : UInt64) (i j : Nat) : UInt64 := if fromM I r j i = 0 then FP.dconst0 else FP.dmul dm (FP.ddiv (FP.i2d (fromM I r j i)) (FP.i2d (suM I j)))
def mfJ (I : SI) (r : Nat) (dm : UInt64) (i : Nat) (X : SX) : Nat → SX
  | 0 => X
  | j + 1 => st2 (mfJ I r dm i X j) 108 (9 * i + j) (FP.dsub (dgF i j) (ptM I r dm i j))
def mfO (I : SI) (r : Nat) (dm : UInt64) (X : SX) : Nat → SX
  | 0 => X
  | i + 1 => st2 (mfJ I r dm i (mfO I r dm X i) 9) 109 i (rtF r dm i)
def MfOK (I : SI) (r : Nat) (d : Int32) : Prop := vf_n64 (dmF d) ∧ (∀ i j, i < 9 → j < 9 → (¬ fromM I r j i = 0 → vf_n64 (FP.ddiv (FP.i2d (fromM I r j i)) (FP.i2d (suM I j))) ∧ vf_n64 (FP.dmul (dmF d) (FP.ddiv (FP.i2d (fromM I r j i)) (FP.i2d (suM I j))))) ∧ vf_n64 (FP.dsub (dgF i j) (ptM I r (dmF d) i j))) ∧ vf_n64 (FP.dsub FP.dconst1 (dmF d))

theorem inX5_share_X5 : ∀ w ∈ wsX50, w ∈ wsX5_share := by decide +kernel
set_option maxHeartbeats 4000000 in
set_option maxRecDepth 100000 in
theorem lp_X5_sh_B {p : Program} {l : Launch} {e : Env} {s : State} {m : MethodId} {args : Array Value} {below : List Frame} {meth : Method} {c : Code} {Q : State → Prop} {nW : Nat} {D : va_G} {cA : Nat → ClassId} {ad : Nat → Nat} (hi : inj nW ad) (hNW : 114 ≤ nW) (hx : p.tables.exec = Jvm.exec) (hb : c.code = cX5_share) (hml : c.maxLocals = 10) (hown : s.vm.findClass RX5 = some m.cls) (hts : ∀ w ∈ wsX5_share, w.before args s = true) (hK : WK D cA s) (I : SI) (J : SJ) (X : SX) (r i n : Nat) (d : Int32) (hr4 : r < 4) (hi9 : i < 9) (hF : MfOK I r d) (kx :  ∀ (H : Heap) (locs : List Loc), WP nW D cA ad I J (mfJ I r (dmF d) i (mfO I r (dmF d) X i) (9)) H → va_S (fr nW ad s.heap.size) s.heap H locs → ∀ (ls : Array Slot), lv_has ls 10 [(5, .int (nI (i))), (3, .double (dmF d)), (1, .int (nI (r))), (2, .int (nI (n))), (0, .ref (ad 102))] → W p l e (headSpec wsX5_share ({ frames := 3, cells := 0, slots := 0, locals := 70 })).room s m args below meth c H locs 0 0 Q (F0 m 124 ls [])) : ∀ (t j : Nat), j + t = 9 →  ∀ (H : Heap) (locs : List Loc), WP nW D cA ad I J (mfJ I r (dmF d) i (mfO I r (dmF d) X i) (j)) H → va_S (fr nW ad s.heap.size) s.heap H locs → ∀ (ls : Array Slot), lv_has ls 10 [(6, .int (nI (j))), (5, .int (nI (i))), (3, .double (dmF d)), (1, .int (nI (r))), (2, .int (nI (n))), (0, .ref (ad 102))] → W p l e (headSpec wsX5_share ({ frames := 3, cells := 0, slots := 0, locals := 70 })).room s m args below meth c H locs 0 0 Q (F0 m 48 ls []) := by
  have hA : ∀ k, k < nW → fr nW ad s.heap.size (ad k) := fr_ad
  intro t
  induction t with
  | zero =>
    intro j hj  H locs hP hS ls hl
    obtain rfl : 9 = j := by omega
    refine lv_iload hx hb dX5_share_48 (lv_at hl 0 rfl) ?_
    refine lv_bipush (v := 9) hx hb dX5_share_50 (by decide) ?_
    refine lv_icmp_ge (tgt := 124) hx hb dX5_share_52 (by decide) (fun cc => ?_) (fun cc => ?_)
    · have qcc : 9 ≤ 9 := (wn_le (a := 9) (b := 9) rfl rfl (by omega) (by omega)).mp cc
      exact kx  H locs hP hS ls (lv_sub hl [1, 2, 3, 4, 5] rfl)
    · have qcc : ¬ 9 ≤ 9 := fun z => cc ((wn_le (a := 9) (b := 9) rfl rfl (by omega) (by omega)).mpr z)
      exact absurd qcc (by omega)
  | succ t ih =>
    intro j hj  H locs hP hS ls hl
    refine lv_iload hx hb dX5_share_48 (lv_at hl 0 rfl) ?_
    refine lv_bipush (v := 9) hx hb dX5_share_50 (by decide) ?_
    refine lv_icmp_ge (tgt := 124) hx hb dX5_share_52 (by decide) (fun cc => ?_) (fun cc => ?_)
    · have qcc : 9 ≤ j := (wn_le (a := 9) (b := j) rfl rfl (by omega) (by omega)).mp cc
      exact absurd qcc (by omega)
    · have qcc : ¬ 9 ≤ j := fun z => cc ((wn_le (a := 9) (b := j) rfl rfl (by omega) (by omega)).mpr z)
      refine lv_aload_n hx hb dX5_share_55 rfl (lv_at hl 5 rfl) ?_
      refine lv_iload_n hx hb dX5_share_56 rfl (lv_at hl 3 rfl) ?_
      refine lv_iload hx hb dX5_share_57 (lv_at hl 0 rfl) ?_
      refine lv_iload hx hb dX5_share_59 (lv_at hl 1 rfl) ?_
      refine w_calli (va_runV (As := [.int (nI (r)), .int (nI (j)), .int (nI (i))]) (rest := []) ⟨hx, hb, hml, hown, hts⟩ (c_X5_from l nW D cA ad hi hNW I J (mfJ I r (dmF d) i (mfO I r (dmF d) X i) (j)) H.size r j i (by omega) (by omega) (by omega)) (cwV 3 hts gX5_share_X5_from rfl rfl rfl (by decide +kernel) ⟨Nat.le_of_ble_eq_true rfl, Nat.le_of_ble_eq_true rfl⟩) (w_preV hK hP 102 (by omega) ⟨rfl, rfl⟩ rfl) rfl rfl hl.1 rfl (lv_room (Nat.le_of_ble_eq_true rfl)) dX5_share_61 ⟨Nat.le_of_ble_eq_true rfl, Nat.le_of_ble_eq_true rfl⟩) hS (fun H locs hP hS => ?_)
      refine lv_istore (lv' := [(7, .int (fromM I r j i)), (6, .int (nI (j))), (5, .int (nI (i))), (3, .double (dmF d)), (1, .int (nI (r))), (2, .int (nI (n))), (0, .ref (ad 102))]) hx hb dX5_share_64 hl (by decide) rfl (fun ls hl => ?_)
      refine lv_iload hx hb dX5_share_66 (lv_at hl 0 rfl) ?_
      refine lv_if_ne (tgt := 75) hx hb dX5_share_68 (by decide) (fun c68 => ?_) (fun c68 => ?_)
      · refine lv_dload_n hx hb dX5_share_75 rfl (lv_at hl 3 rfl) ?_
        refine lv_iload hx hb dX5_share_76 (lv_at hl 0 rfl) ?_
        refine lv_i2d hx hb dX5_share_78 ?_
        refine lv_aload_n hx hb dX5_share_79 rfl (lv_at hl 6 rfl) ?_
        refine lv_iload hx hb dX5_share_80 (lv_at hl 1 rfl) ?_
        refine w_calli (va_runV (As := [.int (nI (j))]) (rest := [.double (FP.i2d (fromM I r j i)), .double (dmF d)]) ⟨hx, hb, hml, hown, hts⟩ (c_X5_sumOf l nW D cA ad hi hNW I J (mfJ I r (dmF d) i (mfO I r (dmF d) X i) (j)) H.size j (by omega)) (cwV 1 hts gX5_share_X5_sumOf rfl rfl rfl (by decide +kernel) ⟨Nat.le_of_ble_eq_true rfl, Nat.le_of_ble_eq_true rfl⟩) (w_preV hK hP 102 (by omega) ⟨rfl, rfl⟩ rfl) rfl rfl hl.1 rfl (lv_room (Nat.le_of_ble_eq_true rfl)) dX5_share_82 ⟨Nat.le_of_ble_eq_true rfl, Nat.le_of_ble_eq_true rfl⟩) hS (fun H locs hP hS => ?_)
        refine lv_i2d hx hb dX5_share_85 ?_
        refine lv_ddiv hx hb dX5_share_86 ((hF.2.1 i j hi9 (by omega)).1 c68).1 ?_
        refine lv_dmul hx hb dX5_share_87 ((hF.2.1 i j hi9 (by omega)).1 c68).2 ?_
        refine lv_dstore (lv' := [(8, .double (FP.dmul (dmF d) (FP.ddiv (FP.i2d (fromM I r j i)) (FP.i2d (suM I j))))), (7, .int (fromM I r j i)), (6, .int (nI (j))), (5, .int (nI (i))), (3, .double (dmF d)), (1, .int (nI (r))), (2, .int (nI (n))), (0, .ref (ad 102))]) hx hb dX5_share_88 hl (by decide) rfl (fun ls hl => ?_)
        refine lv_aload_n hx hb dX5_share_90 rfl (lv_at hl 7 rfl) ?_
        refine w_get (C := RX5) (T := TX5) (N := 15) (v := .ref (ad 108)) (index := 33) hx hb hts inX5_share_X5 hown hK hP 102 8 ⟨rfl, rfl, by decide⟩ (by omega) rfl (List.mem_of_getElem? (i := 4) rfl) (fun _ h9 => h9) dX5_share_91 ?_
        refine lv_bipush (v := 9) hx hb dX5_share_94 (by decide) ?_
        refine lv_iload hx hb dX5_share_96 (lv_at hl 3 rfl) ?_
        refine w_imulN (a := 9) (b := i) hx hb rfl rfl dX5_share_98 ?_
        refine lv_iload hx hb dX5_share_99 (lv_at hl 2 rfl) ?_
        refine w_iaddN (a := (9 * i)) (b := j) hx hb rfl rfl dX5_share_101 ?_
        refine lv_iload hx hb dX5_share_102 (lv_at hl 3 rfl) ?_
        refine lv_iload hx hb dX5_share_104 (lv_at hl 2 rfl) ?_
        refine lv_icmp_ne (tgt := 113) hx hb dX5_share_106 (by decide) (fun c106 => ?_) (fun c106 => ?_)
        · have qc106 : ¬ i = j := fun z => c106 ((wn_eq (a := i) (b := j) rfl rfl (by omega) (by omega)).mpr z)
          refine lv_dconst0 hx hb dX5_share_113 ?_
          refine lv_dload hx hb dX5_share_114 (lv_at hl 0 rfl) ?_
          refine lv_dsub hx hb dX5_share_116 (by have h9 := (hF.2.1 i j hi9 (by omega)).2; unfold dgF ptM at h9; rw [if_neg qc106, if_neg c68] at h9; exact h9) ?_
          refine w_dast (v := FP.dsub FP.dconst0 (FP.dmul (dmF d) (FP.ddiv (FP.i2d (fromM I r j i)) (FP.i2d (suM I j))))) hx hb hK hP hi hA hS 108 ((9 * i) + j) ⟨rfl, (by show (9 * i) + j < 81; omega)⟩ (by omega) rfl dX5_share_117 (fun H locs hP hS => ?_)
          obtain ⟨X_1, eX_1⟩ : ∃ y, y = st2 (mfJ I r (dmF d) i (mfO I r (dmF d) X i) (j)) 108 ((9 * i) + j) (FP.dsub FP.dconst0 (FP.dmul (dmF d) (FP.ddiv (FP.i2d (fromM I r j i)) (FP.i2d (suM I j))))) := ⟨_, rfl⟩
          have hP : WP nW D cA ad I J X_1 H := by rw [eX_1]; exact hP
          refine lv_iinc (v := nI (j + 1)) (lv' := [(6, .int (nI (j + 1))), (8, .double (FP.dmul (dmF d) (FP.ddiv (FP.i2d (fromM I r j i)) (FP.i2d (suM I j))))), (7, .int (fromM I r j i)), (5, .int (nI (i))), (3, .double (dmF d)), (1, .int (nI (r))), (2, .int (nI (n))), (0, .ref (ad 102))]) hx hb dX5_share_118 hl (k := 2) rfl (wn_inc rfl) (by decide) rfl (fun ls hl => ?_)
          refine lv_goto (tgt := 48) hx hb dX5_share_121 (by decide) ?_
          exact ih (j + 1) (by omega)  H locs (w_cong (I1 := I) (J1 := J) (X1 := (mfJ I r (dmF d) i (mfO I r (dmF d) X i) ((j + 1)))) hP ⟨rfl, rfl, (by subst eX_1; simp only [mfJ, dgF, ptM, if_neg qc106, if_neg c68])⟩) hS ls (lv_cong (l := [(6, .int (nI (j + 1))), (5, .int (nI (i))), (3, .double (dmF d)), (1, .int (nI (r))), (2, .int (nI (n))), (0, .ref (ad 102))]) (l' := [(6, .int (nI ((j + 1)))), (5, .int (nI (i))), (3, .double (dmF d)), (1, .int (nI (r))), (2, .int (nI (n))), (0, .ref (ad 102))]) (lv_sub hl [0, 3, 4, 5, 6, 7] rfl) (by subst eX_1; simp only [mfJ, dgF, ptM, if_neg qc106, if_neg c68]))
        · have qc106 : i = j := (wn_eq (a := i) (b := j) rfl rfl (by omega) (by omega)).mp c106
          refine lv_dconst1 hx hb dX5_share_109 ?_
          refine lv_goto (tgt := 114) hx hb dX5_share_110 (by decide) ?_
          refine lv_dload hx hb dX5_share_114 (lv_at hl 0 rfl) ?_
          refine lv_dsub hx hb dX5_share_116 (by have h9 := (hF.2.1 i j hi9 (by omega)).2; unfold dgF ptM at h9; rw [if_pos qc106, if_neg c68] at h9; exact h9) ?_
          refine w_dast (v := FP.dsub FP.dconst1 (FP.dmul (dmF d) (FP.ddiv (FP.i2d (fromM I r j i)) (FP.i2d (suM I j))))) hx hb hK hP hi hA hS 108 ((9 * i) + j) ⟨rfl, (by show (9 * i) + j < 81; omega)⟩ (by omega) rfl dX5_share_117 (fun H locs hP hS => ?_)
          obtain ⟨X_2, eX_2⟩ : ∃ y, y = st2 (mfJ I r (dmF d) i (mfO I r (dmF d) X i) (j)) 108 ((9 * i) + j) (FP.dsub FP.dconst1 (FP.dmul (dmF d) (FP.ddiv (FP.i2d (fromM I r j i)) (FP.i2d (suM I j))))) := ⟨_, rfl⟩
          have hP : WP nW D cA ad I J X_2 H := by rw [eX_2]; exact hP
          refine lv_iinc (v := nI (j + 1)) (lv' := [(6, .int (nI (j + 1))), (8, .double (FP.dmul (dmF d) (FP.ddiv (FP.i2d (fromM I r j i)) (FP.i2d (suM I j))))), (7, .int (fromM I r j i)), (5, .int (nI (i))), (3, .double (dmF d)), (1, .int (nI (r))), (2, .int (nI (n))), (0, .ref (ad 102))]) hx hb dX5_share_118 hl (k := 2) rfl (wn_inc rfl) (by decide) rfl (fun ls hl => ?_)
          refine lv_goto (tgt := 48) hx hb dX5_share_121 (by decide) ?_
          exact ih (j + 1) (by omega)  H locs (w_cong (I1 := I) (J1 := J) (X1 := (mfJ I r (dmF d) i (mfO I r (dmF d) X i) ((j + 1)))) hP ⟨rfl, rfl, (by subst eX_2; simp only [mfJ, dgF, ptM, if_pos qc106, if_neg c68])⟩) hS ls (lv_cong (l := [(6, .int (nI (j + 1))), (5, .int (nI (i))), (3, .double (dmF d)), (1, .int (nI (r))), (2, .int (nI (n))), (0, .ref (ad 102))]) (l' := [(6, .int (nI ((j + 1)))), (5, .int (nI (i))), (3, .double (dmF d)), (1, .int (nI (r))), (2, .int (nI (n))), (0, .ref (ad 102))]) (lv_sub hl [0, 3, 4, 5, 6, 7] rfl) (by subst eX_2; simp only [mfJ, dgF, ptM, if_pos qc106, if_neg c68]))
      · refine lv_dconst0 hx hb dX5_share_71 ?_
        refine lv_goto (tgt := 88) hx hb dX5_share_72 (by decide) ?_
        refine lv_dstore (lv' := [(8, .double (FP.dconst0)), (7, .int (fromM I r j i)), (6, .int (nI (j))), (5, .int (nI (i))), (3, .double (dmF d)), (1, .int (nI (r))), (2, .int (nI (n))), (0, .ref (ad 102))]) hx hb dX5_share_88 hl (by decide) rfl (fun ls hl => ?_)
        refine lv_aload_n hx hb dX5_share_90 rfl (lv_at hl 7 rfl) ?_
        refine w_get (C := RX5) (T := TX5) (N := 15) (v := .ref (ad 108)) (index := 33) hx hb hts inX5_share_X5 hown hK hP 102 8 ⟨rfl, rfl, by decide⟩ (by omega) rfl (List.mem_of_getElem? (i := 4) rfl) (fun _ h9 => h9) dX5_share_91 ?_
        refine lv_bipush (v := 9) hx hb dX5_share_94 (by decide) ?_
        refine lv_iload hx hb dX5_share_96 (lv_at hl 3 rfl) ?_
        refine w_imulN (a := 9) (b := i) hx hb rfl rfl dX5_share_98 ?_
        refine lv_iload hx hb dX5_share_99 (lv_at hl 2 rfl) ?_
        refine w_iaddN (a := (9 * i)) (b := j) hx hb rfl rfl dX5_share_101 ?_
        refine lv_iload hx hb dX5_share_102 (lv_at hl 3 rfl) ?_
        refine lv_iload hx hb dX5_share_104 (lv_at hl 2 rfl) ?_
        refine lv_icmp_ne (tgt := 113) hx hb dX5_share_106 (by decide) (fun c106 => ?_) (fun c106 => ?_)
        · have qc106 : ¬ i = j := fun z => c106 ((wn_eq (a := i) (b := j) rfl rfl (by omega) (by omega)).mpr z)
          refine lv_dconst0 hx hb dX5_share_113 ?_
          refine lv_dload hx hb dX5_share_114 (lv_at hl 0 rfl) ?_
          refine lv_dsub hx hb dX5_share_116 (by have h9 := (hF.2.1 i j hi9 (by omega)).2; unfold dgF ptM at h9; rw [if_neg qc106, if_pos c68] at h9; exact h9) ?_
          refine w_dast (v := FP.dsub FP.dconst0 FP.dconst0) hx hb hK hP hi hA hS 108 ((9 * i) + j) ⟨rfl, (by show (9 * i) + j < 81; omega)⟩ (by omega) rfl dX5_share_117 (fun H locs hP hS => ?_)
          obtain ⟨X_3, eX_3⟩ : ∃ y, y = st2 (mfJ I r (dmF d) i (mfO I r (dmF d) X i) (j)) 108 ((9 * i) + j) (FP.dsub FP.dconst0 FP.dconst0) := ⟨_, rfl⟩
          have hP : WP nW D cA ad I J X_3 H := by rw [eX_3]; exact hP
          refine lv_iinc (v := nI (j + 1)) (lv' := [(6, .int (nI (j + 1))), (8, .double (FP.dconst0)), (7, .int (fromM I r j i)), (5, .int (nI (i))), (3, .double (dmF d)), (1, .int (nI (r))), (2, .int (nI (n))), (0, .ref (ad 102))]) hx hb dX5_share_118 hl (k := 2) rfl (wn_inc rfl) (by decide) rfl (fun ls hl => ?_)
          refine lv_goto (tgt := 48) hx hb dX5_share_121 (by decide) ?_
          exact ih (j + 1) (by omega)  H locs (w_cong (I1 := I) (J1 := J) (X1 := (mfJ I r (dmF d) i (mfO I r (dmF d) X i) ((j + 1)))) hP ⟨rfl, rfl, (by subst eX_3; simp only [mfJ, dgF, ptM, if_neg qc106, if_pos c68])⟩) hS ls (lv_cong (l := [(6, .int (nI (j + 1))), (5, .int (nI (i))), (3, .double (dmF d)), (1, .int (nI (r))), (2, .int (nI (n))), (0, .ref (ad 102))]) (l' := [(6, .int (nI ((j + 1)))), (5, .int (nI (i))), (3, .double (dmF d)), (1, .int (nI (r))), (2, .int (nI (n))), (0, .ref (ad 102))]) (lv_sub hl [0, 3, 4, 5, 6, 7] rfl) (by subst eX_3; simp only [mfJ, dgF, ptM, if_neg qc106, if_pos c68]))
        · have qc106 : i = j := (wn_eq (a := i) (b := j) rfl rfl (by omega) (by omega)).mp c106
          refine lv_dconst1 hx hb dX5_share_109 ?_
          refine lv_goto (tgt := 114) hx hb dX5_share_110 (by decide) ?_
          refine lv_dload hx hb dX5_share_114 (lv_at hl 0 rfl) ?_
          refine lv_dsub hx hb dX5_share_116 (by have h9 := (hF.2.1 i j hi9 (by omega)).2; unfold dgF ptM at h9; rw [if_pos qc106, if_pos c68] at h9; exact h9) ?_
          refine w_dast (v := FP.dsub FP.dconst1 FP.dconst0) hx hb hK hP hi hA hS 108 ((9 * i) + j) ⟨rfl, (by show (9 * i) + j < 81; omega)⟩ (by omega) rfl dX5_share_117 (fun H locs hP hS => ?_)
          obtain ⟨X_4, eX_4⟩ : ∃ y, y = st2 (mfJ I r (dmF d) i (mfO I r (dmF d) X i) (j)) 108 ((9 * i) + j) (FP.dsub FP.dconst1 FP.dconst0) := ⟨_, rfl⟩
          have hP : WP nW D cA ad I J X_4 H := by rw [eX_4]; exact hP
          refine lv_iinc (v := nI (j + 1)) (lv' := [(6, .int (nI (j + 1))), (8, .double (FP.dconst0)), (7, .int (fromM I r j i)), (5, .int (nI (i))), (3, .double (dmF d)), (1, .int (nI (r))), (2, .int (nI (n))), (0, .ref (ad 102))]) hx hb dX5_share_118 hl (k := 2) rfl (wn_inc rfl) (by decide) rfl (fun ls hl => ?_)
          refine lv_goto (tgt := 48) hx hb dX5_share_121 (by decide) ?_
          exact ih (j + 1) (by omega)  H locs (w_cong (I1 := I) (J1 := J) (X1 := (mfJ I r (dmF d) i (mfO I r (dmF d) X i) ((j + 1)))) hP ⟨rfl, rfl, (by subst eX_4; simp only [mfJ, dgF, ptM, if_pos qc106, if_pos c68])⟩) hS ls (lv_cong (l := [(6, .int (nI (j + 1))), (5, .int (nI (i))), (3, .double (dmF d)), (1, .int (nI (r))), (2, .int (nI (n))), (0, .ref (ad 102))]) (l' := [(6, .int (nI ((j + 1)))), (5, .int (nI (i))), (3, .double (dmF d)), (1, .int (nI (r))), (2, .int (nI (n))), (0, .ref (ad 102))]) (lv_sub hl [0, 3, 4, 5, 6, 7] rfl) (by subst eX_4; simp only [mfJ, dgF, ptM, if_pos qc106, if_pos c68]))

set_option maxHeartbeats 4000000 in
set_option maxRecDepth 100000 in
theorem lp_X5_sh_A {p : Program} {l : Launch} {e : Env} {s : State} {m : MethodId} {args : Array Value} {below : List Frame} {meth : Method} {c : Code} {Q : State → Prop} {nW : Nat} {D : va_G} {cA : Nat → ClassId} {ad : Nat → Nat} (hi : inj nW ad) (hNW : 114 ≤ nW) (hx : p.tables.exec = Jvm.exec) (hb : c.code = cX5_share) (hml : c.maxLocals = 10) (hown : s.vm.findClass RX5 = some m.cls) (hts : ∀ w ∈ wsX5_share, w.before args s = true) (hK : WK D cA s) (I : SI) (J : SJ) (X : SX) (r n : Nat) (d : Int32) (hr4 : r < 4) (hF : MfOK I r d) (kx :  ∀ (H : Heap) (locs : List Loc), WP nW D cA ad I J (mfO I r (dmF d) X (9)) H → va_S (fr nW ad s.heap.size) s.heap H locs → ∀ (ls : Array Slot), lv_has ls 10 [(1, .int (nI (r))), (2, .int (nI (n))), (0, .ref (ad 102))] → W p l e (headSpec wsX5_share ({ frames := 3, cells := 0, slots := 0, locals := 70 })).room s m args below meth c H locs 0 0 Q (F0 m 150 ls [])) : ∀ (t i : Nat), i + t = 9 →  ∀ (H : Heap) (locs : List Loc), WP nW D cA ad I J (mfO I r (dmF d) X (i)) H → va_S (fr nW ad s.heap.size) s.heap H locs → ∀ (ls : Array Slot), lv_has ls 10 [(5, .int (nI (i))), (3, .double (dmF d)), (1, .int (nI (r))), (2, .int (nI (n))), (0, .ref (ad 102))] → W p l e (headSpec wsX5_share ({ frames := 3, cells := 0, slots := 0, locals := 70 })).room s m args below meth c H locs 0 0 Q (F0 m 38 ls []) := by
  have hA : ∀ k, k < nW → fr nW ad s.heap.size (ad k) := fr_ad
  intro t
  induction t with
  | zero =>
    intro i hj  H locs hP hS ls hl
    obtain rfl : 9 = i := by omega
    refine lv_iload hx hb dX5_share_38 (lv_at hl 0 rfl) ?_
    refine lv_bipush (v := 9) hx hb dX5_share_40 (by decide) ?_
    refine lv_icmp_ge (tgt := 150) hx hb dX5_share_42 (by decide) (fun cc => ?_) (fun cc => ?_)
    · have qcc : 9 ≤ 9 := (wn_le (a := 9) (b := 9) rfl rfl (by omega) (by omega)).mp cc
      exact kx  H locs hP hS ls (lv_sub hl [2, 3, 4] rfl)
    · have qcc : ¬ 9 ≤ 9 := fun z => cc ((wn_le (a := 9) (b := 9) rfl rfl (by omega) (by omega)).mpr z)
      exact absurd qcc (by omega)
  | succ t ih =>
    intro i hj  H locs hP hS ls hl
    refine lv_iload hx hb dX5_share_38 (lv_at hl 0 rfl) ?_
    refine lv_bipush (v := 9) hx hb dX5_share_40 (by decide) ?_
    refine lv_icmp_ge (tgt := 150) hx hb dX5_share_42 (by decide) (fun cc => ?_) (fun cc => ?_)
    · have qcc : 9 ≤ i := (wn_le (a := 9) (b := i) rfl rfl (by omega) (by omega)).mp cc
      exact absurd qcc (by omega)
    · have qcc : ¬ 9 ≤ i := fun z => cc ((wn_le (a := 9) (b := i) rfl rfl (by omega) (by omega)).mpr z)
      refine lv_iconst (v := 0) hx hb dX5_share_45 (by decide) ?_
      refine lv_istore (lv' := [(6, .int (0)), (5, .int (nI (i))), (3, .double (dmF d)), (1, .int (nI (r))), (2, .int (nI (n))), (0, .ref (ad 102))]) hx hb dX5_share_46 hl (by decide) rfl (fun ls hl => ?_)
      refine lp_X5_sh_B hi hNW hx hb hml hown hts hK I J X r i n d hr4 (by omega) hF (fun  H locs hP hS ls hl => ?_) (9) (0) (by omega)  H locs (w_cong (I1 := I) (J1 := J) (X1 := (mfJ I r (dmF d) i (mfO I r (dmF d) X i) (0))) hP ⟨rfl, rfl, (by subst_vars; rfl)⟩) hS ls (lv_cong (l := [(6, .int (0)), (5, .int (nI (i))), (3, .double (dmF d)), (1, .int (nI (r))), (2, .int (nI (n))), (0, .ref (ad 102))]) (l' := [(6, .int (nI (0))), (5, .int (nI (i))), (3, .double (dmF d)), (1, .int (nI (r))), (2, .int (nI (n))), (0, .ref (ad 102))]) (lv_sub hl [0, 1, 2, 3, 4, 5] rfl) (by subst_vars; rfl))
      refine lv_aload_n hx hb dX5_share_124 rfl (lv_at hl 4 rfl) ?_
      refine w_get (C := RX5) (T := TX5) (N := 15) (v := .ref (ad 109)) (index := 37) hx hb hts inX5_share_X5 hown hK hP 102 9 ⟨rfl, rfl, by decide⟩ (by omega) rfl (List.mem_of_getElem? (i := 5) rfl) (fun _ h9 => h9) dX5_share_125 ?_
      refine lv_iload hx hb dX5_share_128 (lv_at hl 0 rfl) ?_
      refine lv_iload hx hb dX5_share_130 (lv_at hl 0 rfl) ?_
      refine lv_iload_n hx hb dX5_share_132 rfl (lv_at hl 2 rfl) ?_
      refine lv_icmp_ne (tgt := 142) hx hb dX5_share_133 (by decide) (fun c133 => ?_) (fun c133 => ?_)
      · have qc133 : ¬ i = r := fun z => c133 ((wn_eq (a := i) (b := r) rfl rfl (by omega) (by omega)).mpr z)
        refine lv_dconst0 hx hb dX5_share_142 ?_
        refine w_dast (v := FP.dconst0) hx hb hK hP hi hA hS 109 (i) ⟨rfl, (by show i < 9; omega)⟩ (by omega) rfl dX5_share_143 (fun H locs hP hS => ?_)
        obtain ⟨X_1, eX_1⟩ : ∃ y, y = st2 (mfJ I r (dmF d) i (mfO I r (dmF d) X i) (9)) 109 (i) (FP.dconst0) := ⟨_, rfl⟩
        have hP : WP nW D cA ad I J X_1 H := by rw [eX_1]; exact hP
        refine lv_iinc (v := nI (i + 1)) (lv' := [(5, .int (nI (i + 1))), (3, .double (dmF d)), (1, .int (nI (r))), (2, .int (nI (n))), (0, .ref (ad 102))]) hx hb dX5_share_144 hl (k := 0) rfl (wn_inc rfl) (by decide) rfl (fun ls hl => ?_)
        refine lv_goto (tgt := 38) hx hb dX5_share_147 (by decide) ?_
        exact ih (i + 1) (by omega)  H locs (w_cong (I1 := I) (J1 := J) (X1 := (mfO I r (dmF d) X ((i + 1)))) hP ⟨rfl, rfl, (by subst_vars; first | rfl | (simp only [mfO, rtF, if_neg qc133]; done) | (simp only [mfO, rtF, if_pos qc133]; done) | (simp only [mfO, rtF, if_true]; done))⟩) hS ls (lv_cong (l := [(5, .int (nI (i + 1))), (3, .double (dmF d)), (1, .int (nI (r))), (2, .int (nI (n))), (0, .ref (ad 102))]) (l' := [(5, .int (nI ((i + 1)))), (3, .double (dmF d)), (1, .int (nI (r))), (2, .int (nI (n))), (0, .ref (ad 102))]) (lv_sub hl [0, 1, 2, 3, 4] rfl) (by subst_vars; first | rfl | (simp only [mfO, rtF, if_neg qc133]; done) | (simp only [mfO, rtF, if_pos qc133]; done) | (simp only [mfO, rtF, if_true]; done)))
      · have qc133 : i = r := (wn_eq (a := i) (b := r) rfl rfl (by omega) (by omega)).mp c133
        refine lv_dconst1 hx hb dX5_share_136 ?_
        refine lv_dload_n hx hb dX5_share_137 rfl (lv_at hl 1 rfl) ?_
        refine lv_dsub hx hb dX5_share_138 hF.2.2 ?_
        refine lv_goto (tgt := 143) hx hb dX5_share_139 (by decide) ?_
        refine w_dast (v := FP.dsub FP.dconst1 (dmF d)) hx hb hK hP hi hA hS 109 (i) ⟨rfl, (by show i < 9; omega)⟩ (by omega) rfl dX5_share_143 (fun H locs hP hS => ?_)
        obtain ⟨X_2, eX_2⟩ : ∃ y, y = st2 (mfJ I r (dmF d) i (mfO I r (dmF d) X i) (9)) 109 (i) (FP.dsub FP.dconst1 (dmF d)) := ⟨_, rfl⟩
        have hP : WP nW D cA ad I J X_2 H := by rw [eX_2]; exact hP
        refine lv_iinc (v := nI (i + 1)) (lv' := [(5, .int (nI (i + 1))), (3, .double (dmF d)), (1, .int (nI (r))), (2, .int (nI (n))), (0, .ref (ad 102))]) hx hb dX5_share_144 hl (k := 0) rfl (wn_inc rfl) (by decide) rfl (fun ls hl => ?_)
        refine lv_goto (tgt := 38) hx hb dX5_share_147 (by decide) ?_
        exact ih (i + 1) (by omega)  H locs (w_cong (I1 := I) (J1 := J) (X1 := (mfO I r (dmF d) X ((i + 1)))) hP ⟨rfl, rfl, (by subst_vars; first | rfl | (simp only [mfO, rtF, if_neg qc133]; done) | (simp only [mfO, rtF, if_pos qc133]; done) | (simp only [mfO, rtF, if_true]; done))⟩) hS ls (lv_cong (l := [(5, .int (nI (i + 1))), (3, .double (dmF d)), (1, .int (nI (r))), (2, .int (nI (n))), (0, .ref (ad 102))]) (l' := [(5, .int (nI ((i + 1)))), (3, .double (dmF d)), (1, .int (nI (r))), (2, .int (nI (n))), (0, .ref (ad 102))]) (lv_sub hl [0, 1, 2, 3, 4] rfl) (by subst_vars; first | rfl | (simp only [mfO, rtF, if_neg qc133]; done) | (simp only [mfO, rtF, if_pos qc133]; done) | (simp only [mfO, rtF, if_true]; done)))

