/-! settling: pure -/
def runF (cn : Nat → Nat) (nb : Nat → Nat → Nat) (w : Nat) (d bd : Int32) : Nat → SI → SJ → Option (SI × SJ)
  | 0, I, J => if lowF J w bd 9 0 = -1 then some (I, J) else none
  | f + 1, I, J => if lowF J w bd 9 0 = -1 then some (I, J) else runF cn nb w d bd f (pushI I w) (pushJ I cn nb J w (lowF J w bd 9 0).toNatClampNeg d)
theorem lowF_or1 {J : SJ} {w : Nat} {bd : Int32} : ∀ t j, lowF J w bd t j = -1 ∨ ∃ n, j ≤ n ∧ n < j + t ∧ lowF J w bd t j = nI n
  | 0, _ => Or.inl rfl
  | t + 1, j => by
    unfold lowF
    by_cases h : unB J w j bd = true
    · rw [if_pos h]; exact Or.inr ⟨j, Nat.le_refl _, by omega, rfl⟩
    · rw [if_neg h]
      rcases lowF_or1 (J := J) (w := w) (bd := bd) t (j + 1) with q | ⟨n, q1, q2, q3⟩
      · exact Or.inl q
      · exact Or.inr ⟨n, by omega, by omega, q3⟩
theorem lowF_or (J : SJ) (w : Nat) (bd : Int32) : lowF J w bd 9 0 = -1 ∨ ∃ n, n < 9 ∧ lowF J w bd 9 0 = nI n := by
  rcases lowF_or1 (J := J) (w := w) (bd := bd) 9 0 with q | ⟨n, q1, q2, q3⟩
  · exact Or.inl q
  · exact Or.inr ⟨n, by omega, q3⟩
theorem pushI_rd {I : SI} {w v : Nat} (h : I (31 + v) 1 = nI v) : pushI I w (31 + v) 1 = nI v := by
  unfold pushI
  rw [st2_n _ _ (by omega)]
  exact h

theorem nI_nm1 {n : Nat} (h : n < 9) : ¬ nI n = -1 := fun z => by
  have := congrArg Int32.toInt z
  rw [nI_toInt (by omega)] at this
  have h2 : (-1 : Int32).toInt = -1 := by decide
  omega

theorem inX3_settle_X1 : ∀ w ∈ wsX10, w ∈ wsX3_settle := by decide +kernel
theorem inX3_settle_X3 : ∀ w ∈ wsX30, w ∈ wsX3_settle := by decide +kernel
set_option maxHeartbeats 4000000 in
set_option maxRecDepth 100000 in
theorem lp_X3_settle {p : Program} {l : Launch} {e : Env} {s : State} {m : MethodId} {args : Array Value} {below : List Frame} {meth : Method} {c : Code} {Q : State → Prop} {nW : Nat} {D : va_G} {cA : Nat → ClassId} {ad : Nat → Nat} (hi : inj nW ad) (hNW : 102 ≤ nW) (hx : p.tables.exec = Jvm.exec) (hb : c.code = cX3_settle) (hml : c.maxLocals = 6) (hown : s.vm.findClass RX3 = some m.cls) (hts : ∀ w ∈ wsX3_settle, w.before args s = true) (hK : WK D cA s) (X : SX) (w : Nat) (d bd : Int32) (hw4 : w < 4) (cn : Nat → Nat) (nb : Nat → Nat → Nat) (I' : SI) (J' : SJ) (kx : ∀ (H : Heap) (locs : List Loc), WP nW D cA ad (I') (J') X H → va_S (fr nW ad s.heap.size) s.heap H locs → ∀ (ls : Array Slot), lv_has ls 6 [(0, .ref (ad (31 + w)))] → W p l e (headSpec wsX3_settle ({ frames := 3, cells := 0, slots := 0, locals := 83 })).room s m args below meth c H locs 0 0 Q (F0 m 44 ls [])) : ∀ (f k : Nat) (I : SI) (J : SJ), f + k ≤ 10000000 → NetOK I cn nb → I (31 + w) 1 = nI w → runF cn nb w d bd f I J = some (I', J') → ∀ (H : Heap) (locs : List Loc), WP nW D cA ad I J X H → va_S (fr nW ad s.heap.size) s.heap H locs → ∀ (ls : Array Slot), lv_has ls 6 [(5, .int (nI (k))), (4, .int (lowF J w bd 9 0)), (2, .int (d)), (3, .int (bd)), (1, .ref (ad 1)), (0, .ref (ad (31 + w)))] → W p l e (headSpec wsX3_settle ({ frames := 3, cells := 0, slots := 0, locals := 83 })).room s m args below meth c H locs 0 0 Q (F0 m 10 ls []) := by
  have hA : ∀ k, k < nW → fr nW ad s.heap.size (ad k) := fr_ad
  intro f
  induction f with
  | zero =>
    intro k I J hf hN hrd hrun H locs hP hS ls hl
    rcases lowF_or J w bd with hz | ⟨nd, hnd, hz⟩
    · rw [hz] at hl
      unfold runF at hrun
      rw [if_pos hz] at hrun
      obtain ⟨rfl, rfl⟩ := Prod.mk.inj (Option.some.inj hrun)
      refine lv_iload hx hb dX3_settle_10 (lv_at hl 0 rfl) ?_
      refine lv_ldc (v := 10000000) hx hb hown (hts (.constant RX3 36 (10000000)) (List.mem_of_getElem? (i := 1) rfl)) dX3_settle_12 ?_
      refine lv_icmp_ge (tgt := 44) hx hb dX3_settle_14 (by decide) (fun c13 => ?_) (fun c13 => ?_)
      · have qc13 : 10000000 ≤ k := (wn_le (a := 10000000) (b := k) rfl rfl (by omega) (by omega)).mp c13
        exact kx H locs hP hS ls (lv_sub hl [5] rfl)
      · have qc13 : ¬ 10000000 ≤ k := fun z => c13 ((wn_le (a := 10000000) (b := k) rfl rfl (by omega) (by omega)).mpr z)
        refine lv_iload hx hb dX3_settle_17 (lv_at hl 1 rfl) ?_
        refine lv_iconst (v := (-1)) hx hb dX3_settle_19 (by decide) ?_
        refine lv_icmp_eq (tgt := 44) hx hb dX3_settle_20 (by decide) (fun c18 => ?_) (fun c18 => ?_)
        · exact kx H locs hP hS ls (lv_sub hl [5] rfl)
        · exact absurd rfl c18
    · unfold runF at hrun
      rw [if_neg (by rw [hz]; exact nI_nm1 hnd)] at hrun
      cases hrun
  | succ f ih =>
    intro k I J hf hN hrd hrun H locs hP hS ls hl
    rcases lowF_or J w bd with hz | ⟨nd, hnd, hz⟩
    · rw [hz] at hl
      unfold runF at hrun
      rw [if_pos hz] at hrun
      obtain ⟨rfl, rfl⟩ := Prod.mk.inj (Option.some.inj hrun)
      refine lv_iload hx hb dX3_settle_10 (lv_at hl 0 rfl) ?_
      refine lv_ldc (v := 10000000) hx hb hown (hts (.constant RX3 36 (10000000)) (List.mem_of_getElem? (i := 1) rfl)) dX3_settle_12 ?_
      refine lv_icmp_ge (tgt := 44) hx hb dX3_settle_14 (by decide) (fun c13 => ?_) (fun c13 => ?_)
      · have qc13 : 10000000 ≤ k := (wn_le (a := 10000000) (b := k) rfl rfl (by omega) (by omega)).mp c13
        exact kx H locs hP hS ls (lv_sub hl [5] rfl)
      · have qc13 : ¬ 10000000 ≤ k := fun z => c13 ((wn_le (a := 10000000) (b := k) rfl rfl (by omega) (by omega)).mpr z)
        refine lv_iload hx hb dX3_settle_17 (lv_at hl 1 rfl) ?_
        refine lv_iconst (v := (-1)) hx hb dX3_settle_19 (by decide) ?_
        refine lv_icmp_eq (tgt := 44) hx hb dX3_settle_20 (by decide) (fun c18 => ?_) (fun c18 => ?_)
        · exact kx H locs hP hS ls (lv_sub hl [5] rfl)
        · exact absurd rfl c18
    · rw [hz] at hl
      unfold runF at hrun
      rw [if_neg (by rw [hz]; exact nI_nm1 hnd), hz, nI_clamp (by omega)] at hrun
      refine lv_iload hx hb dX3_settle_10 (lv_at hl 0 rfl) ?_
      refine lv_ldc (v := 10000000) hx hb hown (hts (.constant RX3 36 (10000000)) (List.mem_of_getElem? (i := 1) rfl)) dX3_settle_12 ?_
      refine lv_icmp_ge (tgt := 44) hx hb dX3_settle_14 (by decide) (fun c13 => ?_) (fun c13 => ?_)
      · have qc13 : 10000000 ≤ k := (wn_le (a := 10000000) (b := k) rfl rfl (by omega) (by omega)).mp c13
        exact absurd qc13 (by omega)
      · have qc13 : ¬ 10000000 ≤ k := fun z => c13 ((wn_le (a := 10000000) (b := k) rfl rfl (by omega) (by omega)).mpr z)
        refine lv_iload hx hb dX3_settle_17 (lv_at hl 1 rfl) ?_
        refine lv_iconst (v := (-1)) hx hb dX3_settle_19 (by decide) ?_
        refine lv_icmp_eq (tgt := 44) hx hb dX3_settle_20 (by decide) (fun c18 => ?_) (fun c18 => ?_)
        · exact absurd c18 (nI_nm1 hnd)
        · refine lv_aload_n hx hb dX3_settle_23 rfl (lv_at hl 5 rfl) ?_
          refine lv_aload_n hx hb dX3_settle_24 rfl (lv_at hl 4 rfl) ?_
          refine lv_iload hx hb dX3_settle_25 (lv_at hl 1 rfl) ?_
          refine lv_iload_n hx hb dX3_settle_27 rfl (lv_at hl 2 rfl) ?_
          refine w_callv (va_runV (As := [.ref (ad 1), .int (nI (nd)), .int (d)]) (rest := []) ⟨hx, hb, hml, hown, hts⟩ (c_X3_push l nW D cA ad hi hNW I J X H.size w nd d (by omega) (by omega) cn nb hN hrd) (cwV 3 hts gX3_settle_X3_push rfl rfl rfl (by decide +kernel) ⟨Nat.le_of_ble_eq_true rfl, Nat.le_of_ble_eq_true rfl⟩) (w_preV hK hP (31 + w) (by omega) (k_walk (by omega)) rfl) rfl rfl hl.1 rfl (lv_room (Nat.le_of_ble_eq_true rfl)) dX3_settle_28 ⟨Nat.le_of_ble_eq_true rfl, Nat.le_of_ble_eq_true rfl⟩) hS (fun H locs hP hS => ?_)
          refine lv_aload_n hx hb dX3_settle_31 rfl (lv_at hl 5 rfl) ?_
          refine lv_iload_n hx hb dX3_settle_32 rfl (lv_at hl 3 rfl) ?_
          refine w_calli (va_runV (As := [.int (bd)]) (rest := []) ⟨hx, hb, hml, hown, hts⟩ (c_X3_lowestUnsettled l nW D cA ad hi hNW (pushI I w) (pushJ I cn nb J w nd d) X H.size w bd (by omega)) (cwV 1 hts gX3_settle_X3_lowestUnsettled rfl rfl rfl (by decide +kernel) ⟨Nat.le_of_ble_eq_true rfl, Nat.le_of_ble_eq_true rfl⟩) (w_preV hK hP (31 + w) (by omega) (k_walk (by omega)) rfl) rfl rfl hl.1 rfl (lv_room (Nat.le_of_ble_eq_true rfl)) dX3_settle_33 ⟨Nat.le_of_ble_eq_true rfl, Nat.le_of_ble_eq_true rfl⟩) hS (fun H locs hP hS => ?_)
          refine lv_topi (fun x_1 ex_1 => ?_)
          refine lv_istore (lv' := [(4, .int (x_1)), (5, .int (nI (k))), (2, .int (d)), (3, .int (bd)), (1, .ref (ad 1)), (0, .ref (ad (31 + w)))]) hx hb dX3_settle_36 hl (by decide) rfl (fun ls hl => ?_)
          refine lv_iinc (v := nI (k + 1)) (lv' := [(5, .int (nI (k + 1))), (4, .int (x_1)), (2, .int (d)), (3, .int (bd)), (1, .ref (ad 1)), (0, .ref (ad (31 + w)))]) hx hb dX3_settle_38 hl (k := 1) rfl (wn_inc rfl) (by decide) rfl (fun ls hl => ?_)
          refine lv_goto (tgt := 10) hx hb dX3_settle_41 (by decide) ?_
          exact ih (k + 1) (pushI I w) (pushJ I cn nb J w nd d) (by omega) (NetOK_walk hw4 hN) (pushI_rd hrd) hrun H locs hP hS ls (lv_cong (l := [(5, .int (nI (k + 1))), (4, .int (x_1)), (2, .int (d)), (3, .int (bd)), (1, .ref (ad 1)), (0, .ref (ad (31 + w)))]) (l' := [(5, .int (nI (k + 1))), (4, .int (lowF (pushJ I cn nb J w nd d) w bd 9 0)), (2, .int (d)), (3, .int (bd)), (1, .ref (ad 1)), (0, .ref (ad (31 + w)))]) (lv_sub hl [0, 1, 2, 3, 4, 5] rfl) (by subst_vars; rfl))

set_option maxHeartbeats 4000000 in
set_option maxRecDepth 100000 in
/-- X3_settle -/
theorem c_X3_settle (l : Launch) (nW : Nat) (D : va_G) (cA : Nat → ClassId) (ad : Nat → Nat) (hi : inj nW ad) (hNW : 102 ≤ nW) (I : SI) (J : SJ) (X : SX) (sz : Nat) (w : Nat) (d bd : Int32) (hw4 : w < 4) (cn : Nat → Nat) (nb : Nat → Nat → Nat) (I1 : SI) (J1 : SJ) (hN : NetOK I cn nb) (hrd : I (31 + w) 1 = nI w) (f : Nat) (hf : f ≤ 10000000) (hrun : runF cn nb w d bd f I J = some (I1, J1)) : Met l yX3_settle wsX3_settle ({ frames := 3, cells := 0, slots := 0, locals := 83 }) (va_Pc [.ref (ad (31 + w)), .ref (ad 1), .int (d), .int (bd)] (wPre nW D cA ad I J X sz)) (qV nW D cA ad sz I1 J1 X) 0 0 (fr nW ad sz) := by
  refine Met.ofW (cc := cX3_settle) (maxL := 6) (ret := none) (by decide) rfl ?_
  intro p e s m args below meth c s₁ B hml hv
  obtain ⟨rfl, rfl, hP, hK⟩ := hv
  have hx := B.exec
  have hb := B.bytes
  have hr := B.returns
  have hts := atoms_spec (ws := wsX3_settle) B.pre
  have hown : s.vm.findClass RX3 = some m.cls := findClass_of_methodNamed B.named
  have hlocks := B.notSynchronized
  have hS : va_S (fr nW ad s.heap.size) s.heap s.heap [] := va_S.rf
  have hA : ∀ k, k < nW → fr nW ad s.heap.size (ad k) := fr_ad
  have hl := lv_entry ([.ref (ad (31 + w)), .ref (ad 1), .int (d), .int (bd)]) (n := 6) (Nat.le_of_ble_eq_true rfl)
  rw [lg_entry_eq]
  generalize (lg_sl ([.ref (ad (31 + w)), .ref (ad 1), .int (d), .int (bd)]) ++ List.replicate (6 - (lg_sl ([.ref (ad (31 + w)), .ref (ad 1), .int (d), .int (bd)])).length) Slot.unset).toArray = ls at hl ⊢
  have hl : lv_has ls 6 [(0, .ref (ad (31 + w))), (1, .ref (ad 1)), (2, .int (d)), (3, .int (bd))] := hl
  have hS0 := hS
  suffices K : ∀ (H : Heap) (locs : List Loc), WP nW D cA ad I J X H → va_S (fr nW ad s.heap.size) s.heap H locs → W p l e (headSpec wsX3_settle ({ frames := 3, cells := 0, slots := 0, locals := 83 })).room s m ([.ref (ad (31 + w)), .ref (ad 1), .int (d), .int (bd)] : List Value).toArray below meth c H locs 0 0 (MQ below (qV nW D cA ad s.heap.size I1 J1 X) ([.ref (ad (31 + w)), .ref (ad 1), .int (d), .int (bd)] : List Value).toArray s 0 0 (fr nW ad s.heap.size)) (F0 m 0 ls []) from K _ _ hP hS
  clear hP hS hS0
  intro H locs hP hS
  refine lv_aload_n hx hb dX3_settle_0 rfl (lv_at hl 0 rfl) ?_
  refine lv_iload_n hx hb dX3_settle_1 rfl (lv_at hl 3 rfl) ?_
  refine w_calli (va_runV (As := [.int (bd)]) (rest := []) ⟨hx, hb, hml, hown, hts⟩ (c_X3_lowestUnsettled l nW D cA ad hi hNW I J X H.size w bd (by omega)) (cwV 1 hts gX3_settle_X3_lowestUnsettled rfl rfl rfl (by decide +kernel) ⟨Nat.le_of_ble_eq_true rfl, Nat.le_of_ble_eq_true rfl⟩) (w_preV hK hP (31 + w) (by omega) (k_walk (by omega)) rfl) rfl rfl hl.1 rfl (lv_room (Nat.le_of_ble_eq_true rfl)) dX3_settle_2 ⟨Nat.le_of_ble_eq_true rfl, Nat.le_of_ble_eq_true rfl⟩) hS (fun H locs hP hS => ?_)
  refine lv_istore (lv' := [(4, .int (lowF J w bd 9 0)), (0, .ref (ad (31 + w))), (1, .ref (ad 1)), (2, .int (d)), (3, .int (bd))]) hx hb dX3_settle_5 hl (by decide) rfl (fun ls hl => ?_)
  refine lv_iconst (v := 0) hx hb dX3_settle_7 (by decide) ?_
  refine lv_istore (lv' := [(5, .int (0)), (4, .int (lowF J w bd 9 0)), (0, .ref (ad (31 + w))), (1, .ref (ad 1)), (2, .int (d)), (3, .int (bd))]) hx hb dX3_settle_8 hl (by decide) rfl (fun ls hl => ?_)
  refine lp_X3_settle hi hNW hx hb hml hown hts hK X w d bd hw4 cn nb I1 J1 (fun H locs hP hS ls hl => ?_) f 0 I J (by omega) hN hrd hrun H locs hP hS ls (lv_cong (l := [(5, .int (0)), (4, .int (lowF J w bd 9 0)), (2, .int (d)), (3, .int (bd)), (1, .ref (ad 1)), (0, .ref (ad (31 + w)))]) (l' := [(5, .int (nI (0))), (4, .int (lowF J w bd 9 0)), (2, .int (d)), (3, .int (bd)), (1, .ref (ad 1)), (0, .ref (ad (31 + w)))]) (lv_sub hl [0, 1, 4, 5, 3, 2] rfl) (by subst_vars; rfl))
  exact w_vret hx hb hr hlocks hK hP hS ⟨by subst_vars; rfl, by subst_vars; rfl, by subst_vars; rfl⟩ dX3_settle_44
