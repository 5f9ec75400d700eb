/-! a walk: pure -/
/-- what the walks need of the net: counts and places of neighbours are small numbers -/
def NetOK (I : SI) (cn : Nat → Nat) (nb : Nat → Nat → Nat) : Prop := ∀ n, n < 9 → I 28 n = nI (cn n) ∧ cn n ≤ 9 ∧ ∀ k, k < cn n → I (19 + n) k = nI (nb n k) ∧ nb n k < 9
theorem NetOK_walk {I : SI} {cn : Nat → Nat} {nb : Nat → Nat → Nat} {w f : Nat} {v : Int32} (hw : w < 4) (h : NetOK I cn nb) : NetOK (st2 I (31 + w) f v) cn nb := fun n hn => ⟨by rw [st2_k _ _ (by omega)]; exact (h n hn).1, (h n hn).2.1, fun k hk => ⟨by rw [st2_k _ _ (by omega)]; exact ((h n hn).2.2 k hk).1, ((h n hn).2.2 k hk).2⟩⟩
/-- the part of the k-th neighbour -/
def ptF (I : SI) (nb : Nat → Nat → Nat) (n : Nat) (u : Int64) (k : Nat) : Int64 := u * (I (9 + n) (nb n k)).toInt64 / (I 29 n).toInt64
def sendL (I : SI) (nb : Nat → Nat → Nat) (J : SJ) (w n : Nat) (u : Int64) : Nat → Int64 × SJ
  | 0 => (u, J)
  | j + 1 => ((sendL I nb J w n u j).1 - ptF I nb n u (j + 1), giveJ (sendL I nb J w n u j).2 w n (nb n (j + 1)) (ptF I nb n u (j + 1)))
def sendJ (I : SI) (cn : Nat → Nat) (nb : Nat → Nat → Nat) (J : SJ) (w n : Nat) (u : Int64) : SJ :=
  if cn n = 0 ∨ I 29 n = 0 then giveJ J w n w u
  else giveJ (sendL I nb J w n u (cn n - 1)).2 w n (nb n 0) (sendL I nb J w n u (cn n - 1)).1
theorem ne64 {x : Int32} (h : ¬ x = 0) : ¬ x.toInt64 = 0 := fun z => h (by
  have := congrArg Int64.toInt z
  rw [Int32.toInt_toInt64] at this
  exact Int32.toInt_inj.mp this)

theorem inX3_send_X1 : ∀ w ∈ wsX10, w ∈ wsX3_send := by decide +kernel
theorem inX3_send_X3 : ∀ w ∈ wsX30, w ∈ wsX3_send := by decide +kernel
set_option maxHeartbeats 4000000 in
set_option maxRecDepth 100000 in
theorem lp_X3_send {p : Program} {l : Launch} {e : Env} {s : State} {m : MethodId} {args : Array Value} {below : List Frame} {meth : Method} {c : Code} {Q : State → Prop} {nW : Nat} {D : va_G} {cA : Nat → ClassId} {ad : Nat → Nat} (hi : inj nW ad) (hNW : 102 ≤ nW) (hx : p.tables.exec = Jvm.exec) (hb : c.code = cX3_send) (hml : c.maxLocals = 13) (hown : s.vm.findClass RX3 = some m.cls) (hts : ∀ w ∈ wsX3_send, w.before args s = true) (hK : WK D cA s) (I : SI) (J : SJ) (X : SX) (w n : Nat) (u : Int64) (hw4 : w < 4) (hn9 : n < 9) (cn : Nat → Nat) (nb : Nat → Nat → Nat) (hN : NetOK I cn nb) (hc0 : 0 < cn n) (hs0 : ¬ I 29 n = 0) (kx :  ∀ (H : Heap) (locs : List Loc), WP nW D cA ad I ((sendL I nb J w n u (cn n - 1)).2) X H → va_S (fr nW ad s.heap.size) s.heap H locs → ∀ (ls : Array Slot), lv_has ls 13 [(7, .long ((sendL I nb J w n u (cn n - 1)).1)), (2, .int (nI (n))), (1, .ref (ad 1)), (0, .ref (ad (31 + w)))] → W p l e (headSpec wsX3_send ({ frames := 1, cells := 0, slots := 0, locals := 24 })).room s m args below meth c H locs 0 0 Q (F0 m 95 ls [])) : ∀ (t j : Nat), j + t = cn n - 1 →  ∀ (H : Heap) (locs : List Loc), WP nW D cA ad I ((sendL I nb J w n u (j)).2) X H → va_S (fr nW ad s.heap.size) s.heap H locs → ∀ (ls : Array Slot), lv_has ls 13 [(9, .int (nI (j + 1))), (7, .long ((sendL I nb J w n u (j)).1)), (5, .int (nI (cn n))), (6, .int (I 29 n)), (2, .int (nI (n))), (3, .long (u)), (1, .ref (ad 1)), (0, .ref (ad (31 + w)))] → W p l e (headSpec wsX3_send ({ frames := 1, cells := 0, slots := 0, locals := 24 })).room s m args below meth c H locs 0 0 Q (F0 m 41 ls []) := by
  have hA : ∀ k, k < nW → fr nW ad s.heap.size (ad k) := fr_ad
  intro t
  induction t with
  | zero =>
    intro j hj  H locs hP hS ls hl
    obtain rfl : cn n - 1 = j := by omega
    obtain ⟨hN1, hN2, hN3⟩ := hN n hn9
    refine lv_iload hx hb dX3_send_41 (lv_at hl 0 rfl) ?_
    refine lv_iload hx hb dX3_send_43 (lv_at hl 2 rfl) ?_
    refine lv_icmp_ge (tgt := 95) hx hb dX3_send_45 (by decide) (fun cc => ?_) (fun cc => ?_)
    · have qcc : (cn n) ≤ ((cn n - 1) + 1) := (wn_le (a := (cn n)) (b := ((cn n - 1) + 1)) rfl rfl (by omega) (by omega)).mp cc
      exact kx  H locs (w_cong (I1 := I) (J1 := ((sendL I nb J w n u (cn n - 1)).2)) (X1 := X) hP ⟨rfl, (by subst_vars; rfl), rfl⟩) hS ls (lv_cong (l := [(7, .long ((sendL I nb J w n u ((cn n - 1))).1)), (2, .int (nI (n))), (1, .ref (ad 1)), (0, .ref (ad (31 + w)))]) (l' := [(7, .long ((sendL I nb J w n u (cn n - 1)).1)), (2, .int (nI (n))), (1, .ref (ad 1)), (0, .ref (ad (31 + w)))]) (lv_sub hl [1, 4, 6, 7] rfl) (by subst_vars; rfl))
    · have qcc : ¬ (cn n) ≤ ((cn n - 1) + 1) := fun z => cc ((wn_le (a := (cn n)) (b := ((cn n - 1) + 1)) rfl rfl (by omega) (by omega)).mpr z)
      exact absurd qcc (by omega)
  | succ t ih =>
    intro j hj  H locs hP hS ls hl
    obtain ⟨hN1, hN2, hN3⟩ := hN n hn9
    refine lv_iload hx hb dX3_send_41 (lv_at hl 0 rfl) ?_
    refine lv_iload hx hb dX3_send_43 (lv_at hl 2 rfl) ?_
    refine lv_icmp_ge (tgt := 95) hx hb dX3_send_45 (by decide) (fun cc => ?_) (fun cc => ?_)
    · have qcc : (cn n) ≤ (j + 1) := (wn_le (a := (cn n)) (b := (j + 1)) rfl rfl (by omega) (by omega)).mp cc
      exact absurd qcc (by omega)
    · have qcc : ¬ (cn n) ≤ (j + 1) := fun z => cc ((wn_le (a := (cn n)) (b := (j + 1)) rfl rfl (by omega) (by omega)).mpr z)
      refine lv_aload_n hx hb dX3_send_48 rfl (lv_at hl 6 rfl) ?_
      refine lv_iload_n hx hb dX3_send_49 rfl (lv_at hl 4 rfl) ?_
      refine lv_iload hx hb dX3_send_50 (lv_at hl 0 rfl) ?_
      refine w_calli (va_runV (As := [.int (nI (n)), .int (nI (j + 1))]) (rest := []) ⟨hx, hb, hml, hown, hts⟩ (c_X1_neighbour l nW D cA ad hi hNW I ((sendL I nb J w n u (j)).2) X H.size n (j + 1) (by omega) (by omega)) (cwV 2 hts gX3_send_X1_neighbour rfl rfl rfl (by decide +kernel) ⟨Nat.le_of_ble_eq_true rfl, Nat.le_of_ble_eq_true rfl⟩) (w_preV hK hP 1 (by omega) ⟨rfl, rfl⟩ rfl) rfl rfl hl.1 rfl (lv_room (Nat.le_of_ble_eq_true rfl)) dX3_send_52 ⟨Nat.le_of_ble_eq_true rfl, Nat.le_of_ble_eq_true rfl⟩) hS (fun H locs hP hS => ?_)
      have hb9 := (hN3 (j + 1) (by omega)).2
      refine w_topN (a := (nb n (j + 1))) (hN3 (j + 1) (by omega)).1 ?_
      refine lv_istore (lv' := [(10, .int (nI (nb n (j + 1)))), (9, .int (nI (j + 1))), (7, .long ((sendL I nb J w n u (j)).1)), (5, .int (nI (cn n))), (6, .int (I 29 n)), (2, .int (nI (n))), (3, .long (u)), (1, .ref (ad 1)), (0, .ref (ad (31 + w)))]) hx hb dX3_send_55 hl (by decide) rfl (fun ls hl => ?_)
      refine lv_lload_n hx hb dX3_send_57 rfl (lv_at hl 6 rfl) ?_
      refine lv_aload_n hx hb dX3_send_58 rfl (lv_at hl 7 rfl) ?_
      refine lv_iload_n hx hb dX3_send_59 rfl (lv_at hl 5 rfl) ?_
      refine lv_iload hx hb dX3_send_60 (lv_at hl 0 rfl) ?_
      refine w_calli (va_runV (As := [.int (nI (n)), .int (nI (nb n (j + 1)))]) (rest := [.long (u)]) ⟨hx, hb, hml, hown, hts⟩ (c_X1_walkedWeight l nW D cA ad hi hNW I ((sendL I nb J w n u (j)).2) X H.size n (nb n (j + 1)) (by omega) hb9) (cwV 2 hts gX3_send_X1_walkedWeight rfl rfl rfl (by decide +kernel) ⟨Nat.le_of_ble_eq_true rfl, Nat.le_of_ble_eq_true rfl⟩) (w_preV hK hP 1 (by omega) ⟨rfl, rfl⟩ rfl) rfl rfl hl.1 rfl (lv_room (Nat.le_of_ble_eq_true rfl)) dX3_send_62 ⟨Nat.le_of_ble_eq_true rfl, Nat.le_of_ble_eq_true rfl⟩) hS (fun H locs hP hS => ?_)
      refine lv_i2l (v := (I (9 + n) (nb n (j + 1))).toInt64) hx hb dX3_send_65 rfl ?_
      refine lv_lmul hx hb dX3_send_66 ?_
      refine lv_iload hx hb dX3_send_67 (lv_at hl 4 rfl) ?_
      refine lv_i2l (v := (I 29 n).toInt64) hx hb dX3_send_69 rfl ?_
      refine lv_ldiv hx hb dX3_send_70 (ne64 hs0) ?_
      refine lv_topl (fun pt ept => ?_)
      refine lv_lstore (lv' := [(11, .long (pt)), (10, .int (nI (nb n (j + 1)))), (9, .int (nI (j + 1))), (7, .long ((sendL I nb J w n u (j)).1)), (5, .int (nI (cn n))), (6, .int (I 29 n)), (2, .int (nI (n))), (3, .long (u)), (1, .ref (ad 1)), (0, .ref (ad (31 + w)))]) hx hb dX3_send_71 hl (by decide) rfl (fun ls hl => ?_)
      refine lv_aload_n hx hb dX3_send_73 rfl (lv_at hl 9 rfl) ?_
      refine lv_iload_n hx hb dX3_send_74 rfl (lv_at hl 6 rfl) ?_
      refine lv_iload hx hb dX3_send_75 (lv_at hl 1 rfl) ?_
      refine lv_lload hx hb dX3_send_77 (lv_at hl 0 rfl) ?_
      refine w_callv (va_runV (As := [.int (nI (n)), .int (nI (nb n (j + 1))), .long (pt)]) (rest := []) ⟨hx, hb, hml, hown, hts⟩ (c_X3_give l nW D cA ad hi hNW I ((sendL I nb J w n u (j)).2) X H.size w n (nb n (j + 1)) pt (by omega) (by omega) hb9) (cwV 3 hts gX3_send_X3_give rfl rfl rfl (by decide +kernel) ⟨Nat.le_of_ble_eq_true rfl, Nat.le_of_ble_eq_true rfl⟩) (w_preV hK hP (31 + w) (by omega) (k_walk (by omega)) rfl) rfl rfl hl.1 rfl (lv_room (Nat.le_of_ble_eq_true rfl)) dX3_send_79 ⟨Nat.le_of_ble_eq_true rfl, Nat.le_of_ble_eq_true rfl⟩) hS (fun H locs hP hS => ?_)
      refine lv_lload hx hb dX3_send_82 (lv_at hl 3 rfl) ?_
      refine lv_lload hx hb dX3_send_84 (lv_at hl 0 rfl) ?_
      refine lv_lsub hx hb dX3_send_86 ?_
      refine lv_topl (fun lf elf => ?_)
      refine lv_lstore (lv' := [(7, .long (lf)), (11, .long (pt)), (10, .int (nI (nb n (j + 1)))), (9, .int (nI (j + 1))), (5, .int (nI (cn n))), (6, .int (I 29 n)), (2, .int (nI (n))), (3, .long (u)), (1, .ref (ad 1)), (0, .ref (ad (31 + w)))]) hx hb dX3_send_87 hl (by decide) rfl (fun ls hl => ?_)
      refine lv_iinc (v := nI (j + 1 + 1)) (lv' := [(9, .int (nI (j + 1 + 1))), (7, .long (lf)), (11, .long (pt)), (10, .int (nI (nb n (j + 1)))), (5, .int (nI (cn n))), (6, .int (I 29 n)), (2, .int (nI (n))), (3, .long (u)), (1, .ref (ad 1)), (0, .ref (ad (31 + w)))]) hx hb dX3_send_89 hl (k := 3) rfl (wn_inc rfl) (by decide) rfl (fun ls hl => ?_)
      refine lv_goto (tgt := 41) hx hb dX3_send_92 (by decide) ?_
      exact ih (j + 1) (by omega)  H locs (w_cong (I1 := I) (J1 := ((sendL I nb J w n u ((j + 1))).2)) (X1 := X) hP ⟨rfl, (by subst_vars; rfl), rfl⟩) hS ls (lv_cong (l := [(9, .int (nI (j + 1 + 1))), (7, .long (lf)), (5, .int (nI (cn n))), (6, .int (I 29 n)), (2, .int (nI (n))), (3, .long (u)), (1, .ref (ad 1)), (0, .ref (ad (31 + w)))]) (l' := [(9, .int (nI ((j + 1) + 1))), (7, .long ((sendL I nb J w n u ((j + 1))).1)), (5, .int (nI (cn n))), (6, .int (I 29 n)), (2, .int (nI (n))), (3, .long (u)), (1, .ref (ad 1)), (0, .ref (ad (31 + w)))]) (lv_sub hl [0, 1, 4, 5, 6, 7, 8, 9] rfl) (by subst_vars; rfl))

set_option maxHeartbeats 4000000 in
set_option maxRecDepth 100000 in
/-- X3_send -/
theorem c_X3_send (l : Launch) (nW : Nat) (D : va_G) (cA : Nat → ClassId) (ad : Nat → Nat) (hi : inj nW ad) (hNW : 102 ≤ nW) (I : SI) (J : SJ) (X : SX) (sz : Nat) (w n : Nat) (u : Int64) (hw4 : w < 4) (hn9 : n < 9) (cn : Nat → Nat) (nb : Nat → Nat → Nat) (hN : NetOK I cn nb) (hrd : I (31 + w) 1 = nI w) : Met l yX3_send wsX3_send ({ frames := 1, cells := 0, slots := 0, locals := 24 }) (va_Pc [.ref (ad (31 + w)), .ref (ad 1), .int (nI (n)), .long (u)] (wPre nW D cA ad I J X sz)) (qV nW D cA ad sz I (sendJ I cn nb J w n u) X) 0 0 (fr nW ad sz) := by
  refine Met.ofW (cc := cX3_send) (maxL := 13) (ret := none) (by decide) rfl ?_
  intro p e s m args below meth c s₁ B hml hv
  obtain ⟨rfl, rfl, hP, hK⟩ := hv
  have hx := B.exec
  have hb := B.bytes
  have hr := B.returns
  have hts := atoms_spec (ws := wsX3_send) B.pre
  have hown : s.vm.findClass RX3 = some m.cls := findClass_of_methodNamed B.named
  have hlocks := B.notSynchronized
  have hS : va_S (fr nW ad s.heap.size) s.heap s.heap [] := va_S.rf
  have hA : ∀ k, k < nW → fr nW ad s.heap.size (ad k) := fr_ad
  have hl := lv_entry ([.ref (ad (31 + w)), .ref (ad 1), .int (nI (n)), .long (u)]) (n := 13) (Nat.le_of_ble_eq_true rfl)
  rw [lg_entry_eq]
  generalize (lg_sl ([.ref (ad (31 + w)), .ref (ad 1), .int (nI (n)), .long (u)]) ++ List.replicate (13 - (lg_sl ([.ref (ad (31 + w)), .ref (ad 1), .int (nI (n)), .long (u)])).length) Slot.unset).toArray = ls at hl ⊢
  have hl : lv_has ls 13 [(0, .ref (ad (31 + w))), (1, .ref (ad 1)), (2, .int (nI (n))), (3, .long (u))] := hl
  have hS0 := hS
  obtain ⟨hN1, hN2, hN3⟩ := hN n hn9
  suffices K : ∀ (H : Heap) (locs : List Loc), WP nW D cA ad I J X H → va_S (fr nW ad s.heap.size) s.heap H locs → W p l e (headSpec wsX3_send ({ frames := 1, cells := 0, slots := 0, locals := 24 })).room s m ([.ref (ad (31 + w)), .ref (ad 1), .int (nI (n)), .long (u)] : List Value).toArray below meth c H locs 0 0 (MQ below (qV nW D cA ad s.heap.size I (sendJ I cn nb J w n u) X) ([.ref (ad (31 + w)), .ref (ad 1), .int (nI (n)), .long (u)] : List Value).toArray s 0 0 (fr nW ad s.heap.size)) (F0 m 0 ls []) from K _ _ hP hS
  clear hP hS hS0
  intro H locs hP hS
  refine lv_aload_n hx hb dX3_send_0 rfl (lv_at hl 1 rfl) ?_
  refine lv_iload_n hx hb dX3_send_1 rfl (lv_at hl 2 rfl) ?_
  refine w_calli (va_runV (As := [.int (nI (n))]) (rest := []) ⟨hx, hb, hml, hown, hts⟩ (c_X1_neighbourCount l nW D cA ad hi hNW I J X H.size n (by omega)) (cwV 1 hts gX3_send_X1_neighbourCount rfl rfl rfl (by decide +kernel) ⟨Nat.le_of_ble_eq_true rfl, Nat.le_of_ble_eq_true rfl⟩) (w_preV hK hP 1 (by omega) ⟨rfl, rfl⟩ rfl) rfl rfl hl.1 rfl (lv_room (Nat.le_of_ble_eq_true rfl)) dX3_send_2 ⟨Nat.le_of_ble_eq_true rfl, Nat.le_of_ble_eq_true rfl⟩) hS (fun H locs hP hS => ?_)
  refine w_topN (a := (cn n)) hN1 ?_
  refine lv_istore (lv' := [(5, .int (nI (cn n))), (0, .ref (ad (31 + w))), (1, .ref (ad 1)), (2, .int (nI (n))), (3, .long (u))]) hx hb dX3_send_5 hl (by decide) rfl (fun ls hl => ?_)
  refine lv_aload_n hx hb dX3_send_7 rfl (lv_at hl 2 rfl) ?_
  refine lv_iload_n hx hb dX3_send_8 rfl (lv_at hl 3 rfl) ?_
  refine w_calli (va_runV (As := [.int (nI (n))]) (rest := []) ⟨hx, hb, hml, hown, hts⟩ (c_X1_weightOfAll l nW D cA ad hi hNW I J X H.size n (by omega)) (cwV 1 hts gX3_send_X1_weightOfAll rfl rfl rfl (by decide +kernel) ⟨Nat.le_of_ble_eq_true rfl, Nat.le_of_ble_eq_true rfl⟩) (w_preV hK hP 1 (by omega) ⟨rfl, rfl⟩ rfl) rfl rfl hl.1 rfl (lv_room (Nat.le_of_ble_eq_true rfl)) dX3_send_9 ⟨Nat.le_of_ble_eq_true rfl, Nat.le_of_ble_eq_true rfl⟩) hS (fun H locs hP hS => ?_)
  refine lv_istore (lv' := [(6, .int (I 29 n)), (5, .int (nI (cn n))), (0, .ref (ad (31 + w))), (1, .ref (ad 1)), (2, .int (nI (n))), (3, .long (u))]) hx hb dX3_send_12 hl (by decide) rfl (fun ls hl => ?_)
  refine lv_iload hx hb dX3_send_14 (lv_at hl 1 rfl) ?_
  refine lv_if_eq (tgt := 24) hx hb dX3_send_16 (by decide) (fun c0 => ?_) (fun c0 => ?_)
  · have qc0 : (cn n) = 0 := (wn_eq (a := (cn n)) (b := 0) rfl rfl (by omega) (by omega)).mp c0
    have hz : cn n = 0 ∨ I 29 n = 0 := Or.inl qc0
    refine lv_aload_n hx hb dX3_send_24 rfl (lv_at hl 2 rfl) ?_
    refine lv_iload_n hx hb dX3_send_25 rfl (lv_at hl 4 rfl) ?_
    refine lv_aload_n hx hb dX3_send_26 rfl (lv_at hl 2 rfl) ?_
    refine w_get (C := RX3) (T := TX3) (N := 5) (v := .int (I (31 + w) 1)) (index := 27) hx hb hts inX3_send_X3 hown hK hP (31 + w) 0 (k_walkf (by omega) (by decide)) (by omega) (fl_walk0 (by omega)) (List.mem_of_getElem? (i := 1) rfl) (fun _ h9 => h9) dX3_send_27 ?_
    refine w_topN (a := w) hrd ?_
    refine lv_lload_n hx hb dX3_send_30 rfl (lv_at hl 5 rfl) ?_
    refine w_callv (va_runV (As := [.int (nI (n)), .int (nI (w)), .long (u)]) (rest := []) ⟨hx, hb, hml, hown, hts⟩ (c_X3_give l nW D cA ad hi hNW I J X H.size w n w u (by omega) (by omega) (by omega)) (cwV 3 hts gX3_send_X3_give rfl rfl rfl (by decide +kernel) ⟨Nat.le_of_ble_eq_true rfl, Nat.le_of_ble_eq_true rfl⟩) (w_preV hK hP (31 + w) (by omega) (k_walk (by omega)) rfl) rfl rfl hl.1 rfl (lv_room (Nat.le_of_ble_eq_true rfl)) dX3_send_31 ⟨Nat.le_of_ble_eq_true rfl, Nat.le_of_ble_eq_true rfl⟩) hS (fun H locs hP hS => ?_)
    exact w_vret hx hb hr hlocks hK hP hS ⟨by subst_vars; rfl, by subst_vars; unfold sendJ; rw [if_pos hz], by subst_vars; rfl⟩ dX3_send_34
  · have qc0 : ¬ (cn n) = 0 := fun z => c0 ((wn_eq (a := (cn n)) (b := 0) rfl rfl (by omega) (by omega)).mpr z)
    refine lv_iload hx hb dX3_send_19 (lv_at hl 0 rfl) ?_
    refine lv_if_ne (tgt := 35) hx hb dX3_send_21 (by decide) (fun c1 => ?_) (fun c1 => ?_)
    · refine lv_lload_n hx hb dX3_send_35 rfl (lv_at hl 5 rfl) ?_
      refine lv_lstore (lv' := [(7, .long (u)), (6, .int (I 29 n)), (5, .int (nI (cn n))), (0, .ref (ad (31 + w))), (1, .ref (ad 1)), (2, .int (nI (n))), (3, .long (u))]) hx hb dX3_send_36 hl (by decide) rfl (fun ls hl => ?_)
      refine lv_iconst (v := 1) hx hb dX3_send_38 (by decide) ?_
      refine lv_istore (lv' := [(9, .int (1)), (7, .long (u)), (6, .int (I 29 n)), (5, .int (nI (cn n))), (0, .ref (ad (31 + w))), (1, .ref (ad 1)), (2, .int (nI (n))), (3, .long (u))]) hx hb dX3_send_39 hl (by decide) rfl (fun ls hl => ?_)
      refine lp_X3_send hi hNW hx hb hml hown hts hK I J X w n u hw4 hn9 cn nb hN (by omega) c1 (fun  H locs hP hS ls hl => ?_) (cn n - 1) (0) (by omega)  H locs (w_cong (I1 := I) (J1 := ((sendL I nb J w n u 0).2)) (X1 := X) hP ⟨rfl, (by subst_vars; rfl), rfl⟩) hS ls (lv_cong (l := [(9, .int (1)), (7, .long (u)), (5, .int (nI (cn n))), (6, .int (I 29 n)), (2, .int (nI (n))), (3, .long (u)), (1, .ref (ad 1)), (0, .ref (ad (31 + w)))]) (l' := [(9, .int (nI (0 + 1))), (7, .long ((sendL I nb J w n u 0).1)), (5, .int (nI (cn n))), (6, .int (I 29 n)), (2, .int (nI (n))), (3, .long (u)), (1, .ref (ad 1)), (0, .ref (ad (31 + w)))]) (lv_sub hl [0, 1, 3, 2, 6, 7, 5, 4] rfl) (by subst_vars; rfl))
      refine lv_aload_n hx hb dX3_send_95 rfl (lv_at hl 3 rfl) ?_
      refine lv_iload_n hx hb dX3_send_96 rfl (lv_at hl 1 rfl) ?_
      refine lv_aload_n hx hb dX3_send_97 rfl (lv_at hl 2 rfl) ?_
      refine lv_iload_n hx hb dX3_send_98 rfl (lv_at hl 1 rfl) ?_
      refine lv_iconst (v := 0) hx hb dX3_send_99 (by decide) ?_
      refine w_calli (va_runV (As := [.int (nI (n)), .int (0)]) (rest := [.int (nI (n)), .ref (ad (31 + w))]) ⟨hx, hb, hml, hown, hts⟩ (c_X1_neighbour l nW D cA ad hi hNW I ((sendL I nb J w n u (cn n - 1)).2) X H.size n 0 (by omega) (by omega)) (cwV 2 hts gX3_send_X1_neighbour rfl rfl rfl (by decide +kernel) ⟨Nat.le_of_ble_eq_true rfl, Nat.le_of_ble_eq_true rfl⟩) (w_preV hK hP 1 (by omega) ⟨rfl, rfl⟩ rfl) rfl rfl hl.1 rfl (lv_room (Nat.le_of_ble_eq_true rfl)) dX3_send_100 ⟨Nat.le_of_ble_eq_true rfl, Nat.le_of_ble_eq_true rfl⟩) hS (fun H locs hP hS => ?_)
      have hb9 := (hN3 0 (by omega)).2
      refine w_topN (a := (nb n 0)) (hN3 0 (by omega)).1 ?_
      refine lv_lload hx hb dX3_send_103 (lv_at hl 0 rfl) ?_
      refine w_callv (va_runV (As := [.int (nI (n)), .int (nI (nb n 0)), .long ((sendL I nb J w n u (cn n - 1)).1)]) (rest := []) ⟨hx, hb, hml, hown, hts⟩ (c_X3_give l nW D cA ad hi hNW I ((sendL I nb J w n u (cn n - 1)).2) X H.size w n (nb n 0) ((sendL I nb J w n u (cn n - 1)).1) (by omega) (by omega) hb9) (cwV 3 hts gX3_send_X3_give rfl rfl rfl (by decide +kernel) ⟨Nat.le_of_ble_eq_true rfl, Nat.le_of_ble_eq_true rfl⟩) (w_preV hK hP (31 + w) (by omega) (k_walk (by omega)) rfl) rfl rfl hl.1 rfl (lv_room (Nat.le_of_ble_eq_true rfl)) dX3_send_105 ⟨Nat.le_of_ble_eq_true rfl, Nat.le_of_ble_eq_true rfl⟩) hS (fun H locs hP hS => ?_)
      exact w_vret hx hb hr hlocks hK hP hS ⟨by subst_vars; rfl, by subst_vars; unfold sendJ; rw [if_neg (fun z => z.elim (fun q => by omega) c1)], by subst_vars; rfl⟩ dX3_send_108
    · have hz : cn n = 0 ∨ I 29 n = 0 := Or.inr c1
      refine lv_aload_n hx hb dX3_send_24 rfl (lv_at hl 2 rfl) ?_
      refine lv_iload_n hx hb dX3_send_25 rfl (lv_at hl 4 rfl) ?_
      refine lv_aload_n hx hb dX3_send_26 rfl (lv_at hl 2 rfl) ?_
      refine w_get (C := RX3) (T := TX3) (N := 5) (v := .int (I (31 + w) 1)) (index := 27) hx hb hts inX3_send_X3 hown hK hP (31 + w) 0 (k_walkf (by omega) (by decide)) (by omega) (fl_walk0 (by omega)) (List.mem_of_getElem? (i := 1) rfl) (fun _ h9 => h9) dX3_send_27 ?_
      refine w_topN (a := w) hrd ?_
      refine lv_lload_n hx hb dX3_send_30 rfl (lv_at hl 5 rfl) ?_
      refine w_callv (va_runV (As := [.int (nI (n)), .int (nI (w)), .long (u)]) (rest := []) ⟨hx, hb, hml, hown, hts⟩ (c_X3_give l nW D cA ad hi hNW I J X H.size w n w u (by omega) (by omega) (by omega)) (cwV 3 hts gX3_send_X3_give rfl rfl rfl (by decide +kernel) ⟨Nat.le_of_ble_eq_true rfl, Nat.le_of_ble_eq_true rfl⟩) (w_preV hK hP (31 + w) (by omega) (k_walk (by omega)) rfl) rfl rfl hl.1 rfl (lv_room (Nat.le_of_ble_eq_true rfl)) dX3_send_31 ⟨Nat.le_of_ble_eq_true rfl, Nat.le_of_ble_eq_true rfl⟩) hS (fun H locs hP hS => ?_)
      exact w_vret hx hb hr hlocks hK hP hS ⟨by subst_vars; rfl, by subst_vars; unfold sendJ; rw [if_pos hz], by subst_vars; rfl⟩ dX3_send_34

/-- a node's rest is at the bound or beyond -/
def unB (J : SJ) (w n : Nat) (bd : Int32) : Bool := decide (bd.toInt64 ≤ J (39 + w) n) || decide (J (39 + w) n ≤ (-bd).toInt64)
def lowF (J : SJ) (w : Nat) (bd : Int32) : Nat → Nat → Int32
  | 0, _ => -1
  | t + 1, j => if unB J w j bd then nI j else lowF J w bd t (j + 1)
theorem lowF_y {J : SJ} {w : Nat} {bd : Int32} {t j : Nat} (h : bd.toInt64 ≤ J (39 + w) j ∨ J (39 + w) j ≤ (-bd).toInt64) : lowF J w bd (t + 1) j = nI j := by
  unfold lowF
  rw [if_pos]
  unfold unB
  rcases h with h | h <;> simp [h]
theorem lowF_n {J : SJ} {w : Nat} {bd : Int32} {t j : Nat} (h1 : ¬ bd.toInt64 ≤ J (39 + w) j) (h2 : ¬ J (39 + w) j ≤ (-bd).toInt64) : lowF J w bd (t + 1) j = lowF J w bd t (j + 1) := by
  rw [lowF]
  rw [if_neg]
  unfold unB
  simp [h1, h2]
theorem i64_le {a b : Int64} (h : ¬ b < a) : a ≤ b := by rw [Int64.lt_iff_toInt_lt] at h; rw [Int64.le_iff_toInt_le]; omega
theorem i64_nle {a b : Int64} (h : b < a) : ¬ a ≤ b := fun z => by rw [Int64.lt_iff_toInt_lt] at h; rw [Int64.le_iff_toInt_le] at z; omega

theorem inX3_lowestUnsettled_X3 : ∀ w ∈ wsX30, w ∈ wsX3_lowestUnsettled := by decide +kernel
set_option maxHeartbeats 4000000 in
set_option maxRecDepth 100000 in
theorem lp_X3_low {p : Program} {l : Launch} {e : Env} {s : State} {m : MethodId} {args : Array Value} {below : List Frame} {meth : Method} {c : Code} {Q : State → Prop} {nW : Nat} {D : va_G} {cA : Nat → ClassId} {ad : Nat → Nat} (hi : inj nW ad) (hNW : 102 ≤ nW) (hx : p.tables.exec = Jvm.exec) (hb : c.code = cX3_lowestUnsettled) (hml : c.maxLocals = 3) (hown : s.vm.findClass RX3 = some m.cls) (hts : ∀ w ∈ wsX3_lowestUnsettled, w.before args s = true) (hK : WK D cA s) (I : SI) (J : SJ) (X : SX) (w : Nat) (bd : Int32) (hw4 : w < 4) (kx : lowF J w bd 9 0 = -1 → ∀ (H : Heap) (locs : List Loc), WP nW D cA ad I J X H → va_S (fr nW ad s.heap.size) s.heap H locs → ∀ (ls : Array Slot), lv_has ls 3 [(0, .ref (ad (31 + w)))] → W p l e (headSpec wsX3_lowestUnsettled ({ frames := 0, cells := 0, slots := 0, locals := 0 })).room s m args below meth c H locs 0 0 Q (F0 m 41 ls [])) (kr : ∀ (j : Nat), j < 9 → lowF J w bd 9 0 = nI j → ∀ (H : Heap) (locs : List Loc), WP nW D cA ad I J X H → va_S (fr nW ad s.heap.size) s.heap H locs → ∀ (ls : Array Slot), lv_has ls 3 [(2, .int (nI (j))), (0, .ref (ad (31 + w)))] → W p l e (headSpec wsX3_lowestUnsettled ({ frames := 0, cells := 0, slots := 0, locals := 0 })).room s m args below meth c H locs 0 0 Q (F0 m 33 ls [])) : ∀ (t j : Nat), j + t = 9 → (hq : lowF J w bd 9 0 = lowF J w bd t j) → ∀ (H : Heap) (locs : List Loc), WP nW D cA ad I J X H → va_S (fr nW ad s.heap.size) s.heap H locs → ∀ (ls : Array Slot), lv_has ls 3 [(2, .int (nI (j))), (1, .int (bd)), (0, .ref (ad (31 + w)))] → W p l e (headSpec wsX3_lowestUnsettled ({ frames := 0, cells := 0, slots := 0, locals := 0 })).room s m args below meth c H locs 0 0 Q (F0 m 2 ls []) := by
  have hA : ∀ k, k < nW → fr nW ad s.heap.size (ad k) := fr_ad
  intro t
  induction t with
  | zero =>
    intro j hj hq H locs hP hS ls hl
    obtain rfl : 9 = j := by omega
    refine lv_iload_n hx hb dX3_lowestUnsettled_2 rfl (lv_at hl 0 rfl) ?_
    refine lv_bipush (v := 9) hx hb dX3_lowestUnsettled_3 (by decide) ?_
    refine lv_icmp_ge (tgt := 41) hx hb dX3_lowestUnsettled_5 (by decide) (fun cc => ?_) (fun cc => ?_)
    · have qcc : 9 ≤ 9 := (wn_le (a := 9) (b := 9) rfl rfl (by omega) (by omega)).mp cc
      exact kx hq H locs hP hS ls (lv_sub hl [2] rfl)
    · have qcc : ¬ 9 ≤ 9 := fun z => cc ((wn_le (a := 9) (b := 9) rfl rfl (by omega) (by omega)).mpr z)
      exact absurd qcc (by omega)
  | succ t ih =>
    intro j hj hq H locs hP hS ls hl
    refine lv_iload_n hx hb dX3_lowestUnsettled_2 rfl (lv_at hl 0 rfl) ?_
    refine lv_bipush (v := 9) hx hb dX3_lowestUnsettled_3 (by decide) ?_
    refine lv_icmp_ge (tgt := 41) hx hb dX3_lowestUnsettled_5 (by decide) (fun cc => ?_) (fun cc => ?_)
    · have qcc : 9 ≤ j := (wn_le (a := 9) (b := j) rfl rfl (by omega) (by omega)).mp cc
      exact absurd qcc (by omega)
    · have qcc : ¬ 9 ≤ j := fun z => cc ((wn_le (a := 9) (b := j) rfl rfl (by omega) (by omega)).mpr z)
      refine lv_aload_n hx hb dX3_lowestUnsettled_8 rfl (lv_at hl 2 rfl) ?_
      refine w_get (C := RX3) (T := TX3) (N := 5) (v := .ref (ad (39 + w))) (index := 15) hx hb hts inX3_lowestUnsettled_X3 hown hK hP (31 + w) 2 (k_walkf (by omega) (by decide)) (by omega) (fl_walk2 (by omega)) (List.mem_of_getElem? (i := 1) rfl) (fun _ h9 => h9) dX3_lowestUnsettled_9 ?_
      refine lv_iload_n hx hb dX3_lowestUnsettled_12 rfl (lv_at hl 0 rfl) ?_
      refine w_lald hx hb hK hP (39 + w) (j) (k_rest (by omega) (by omega)) (by omega) rfl dX3_lowestUnsettled_13 ?_
      refine lv_iload_n hx hb dX3_lowestUnsettled_14 rfl (lv_at hl 1 rfl) ?_
      refine lv_i2l (v := bd.toInt64) hx hb dX3_lowestUnsettled_15 rfl ?_
      refine W.lcmp hx hb dX3_lowestUnsettled_16 ?_
      refine lv_if_ge (tgt := 33) hx hb dX3_lowestUnsettled_17 (by decide) (fun ca => ?_) (fun ca => ?_)
      · have qca := (lg_cmp_ge _ _).mp ca
        have hy : bd.toInt64 ≤ J (39 + w) j ∨ J (39 + w) j ≤ (-bd).toInt64 := Or.inl qca
        exact kr j (by omega) (hq.trans (lowF_y hy)) H locs hP hS ls (lv_sub hl [0, 2] rfl)
      · have qca := fun z => ca ((lg_cmp_ge _ _).mpr z)
        have hn1 := qca
        refine lv_aload_n hx hb dX3_lowestUnsettled_20 rfl (lv_at hl 2 rfl) ?_
        refine w_get (C := RX3) (T := TX3) (N := 5) (v := .ref (ad (39 + w))) (index := 15) hx hb hts inX3_lowestUnsettled_X3 hown hK hP (31 + w) 2 (k_walkf (by omega) (by decide)) (by omega) (fl_walk2 (by omega)) (List.mem_of_getElem? (i := 1) rfl) (fun _ h9 => h9) dX3_lowestUnsettled_21 ?_
        refine lv_iload_n hx hb dX3_lowestUnsettled_24 rfl (lv_at hl 0 rfl) ?_
        refine w_lald hx hb hK hP (39 + w) (j) (k_rest (by omega) (by omega)) (by omega) rfl dX3_lowestUnsettled_25 ?_
        refine lv_iload_n hx hb dX3_lowestUnsettled_26 rfl (lv_at hl 1 rfl) ?_
        refine lv_ineg hx hb dX3_lowestUnsettled_27 ?_
        refine lv_i2l (v := (-bd).toInt64) hx hb dX3_lowestUnsettled_28 rfl ?_
        refine W.lcmp hx hb dX3_lowestUnsettled_29 ?_
        refine lv_if_gt (tgt := 35) hx hb dX3_lowestUnsettled_30 (by decide) (fun cb => ?_) (fun cb => ?_)
        · have qcb := (lg_cmp_gt _ _).mp cb
          have hn2 := i64_nle qcb
          refine lv_iinc (v := nI (j + 1)) (lv' := [(2, .int (nI (j + 1))), (1, .int (bd)), (0, .ref (ad (31 + w)))]) hx hb dX3_lowestUnsettled_35 hl (k := 0) rfl (wn_inc rfl) (by decide) rfl (fun ls hl => ?_)
          refine lv_goto (tgt := 2) hx hb dX3_lowestUnsettled_38 (by decide) ?_
          exact ih (j + 1) (by omega) (hq.trans (lowF_n hn1 hn2)) H locs hP hS ls (lv_cong (l := [(2, .int (nI (j + 1))), (1, .int (bd)), (0, .ref (ad (31 + w)))]) (l' := [(2, .int (nI ((j + 1)))), (1, .int (bd)), (0, .ref (ad (31 + w)))]) (lv_sub hl [0, 1, 2] rfl) (by subst_vars; rfl))
        · have qcb := fun z => cb ((lg_cmp_gt _ _).mpr z)
          have hy : bd.toInt64 ≤ J (39 + w) j ∨ J (39 + w) j ≤ (-bd).toInt64 := Or.inr (i64_le qcb)
          exact kr j (by omega) (hq.trans (lowF_y hy)) H locs hP hS ls (lv_sub hl [0, 2] rfl)

set_option maxHeartbeats 4000000 in
set_option maxRecDepth 100000 in
/-- X3_lowestUnsettled -/
theorem c_X3_lowestUnsettled (l : Launch) (nW : Nat) (D : va_G) (cA : Nat → ClassId) (ad : Nat → Nat) (hi : inj nW ad) (hNW : 102 ≤ nW) (I : SI) (J : SJ) (X : SX) (sz : Nat) (w : Nat) (bd : Int32) (hw4 : w < 4) : Met l yX3_lowestUnsettled wsX3_lowestUnsettled ({ frames := 0, cells := 0, slots := 0, locals := 0 }) (va_Pc [.ref (ad (31 + w)), .int (bd)] (wPre nW D cA ad I J X sz)) (qI nW D cA ad sz (lowF J w bd 9 0) I J X) 0 0 (fr nW ad sz) := by
  refine Met.ofW (cc := cX3_lowestUnsettled) (maxL := 3) (ret := (some .int)) (by decide) rfl ?_
  intro p e s m args below meth c s₁ B hml hv
  obtain ⟨rfl, rfl, hP, hK⟩ := hv
  have hx := B.exec
  have hb := B.bytes
  have hr := B.returns
  have hts := atoms_spec (ws := wsX3_lowestUnsettled) B.pre
  have hown : s.vm.findClass RX3 = some m.cls := findClass_of_methodNamed B.named
  have hlocks := B.notSynchronized
  have hS : va_S (fr nW ad s.heap.size) s.heap s.heap [] := va_S.rf
  have hA : ∀ k, k < nW → fr nW ad s.heap.size (ad k) := fr_ad
  have hl := lv_entry ([.ref (ad (31 + w)), .int (bd)]) (n := 3) (Nat.le_of_ble_eq_true rfl)
  rw [lg_entry_eq]
  generalize (lg_sl ([.ref (ad (31 + w)), .int (bd)]) ++ List.replicate (3 - (lg_sl ([.ref (ad (31 + w)), .int (bd)])).length) Slot.unset).toArray = ls at hl ⊢
  have hl : lv_has ls 3 [(0, .ref (ad (31 + w))), (1, .int (bd))] := hl
  have hS0 := hS
  suffices K : ∀ (H : Heap) (locs : List Loc), WP nW D cA ad I J X H → va_S (fr nW ad s.heap.size) s.heap H locs → W p l e (headSpec wsX3_lowestUnsettled ({ frames := 0, cells := 0, slots := 0, locals := 0 })).room s m ([.ref (ad (31 + w)), .int (bd)] : List Value).toArray below meth c H locs 0 0 (MQ below (qI nW D cA ad s.heap.size (lowF J w bd 9 0) I J X) ([.ref (ad (31 + w)), .int (bd)] : List Value).toArray s 0 0 (fr nW ad s.heap.size)) (F0 m 0 ls []) from K _ _ hP hS
  clear hP hS hS0
  intro H locs hP hS
  refine lv_iconst (v := 0) hx hb dX3_lowestUnsettled_0 (by decide) ?_
  refine lv_istore_n (lv' := [(2, .int (0)), (0, .ref (ad (31 + w))), (1, .int (bd))]) hx hb dX3_lowestUnsettled_1 rfl hl (by decide) rfl (fun ls hl => ?_)
  refine lp_X3_low hi hNW hx hb hml hown hts hK I J X w bd hw4 (fun h42 H locs hP hS ls hl => ?_) (fun j j9 h33 H locs hP hS ls hl => ?_) (9) (0) (by omega) rfl H locs hP hS ls (lv_cong (l := [(2, .int (0)), (1, .int (bd)), (0, .ref (ad (31 + w)))]) (l' := [(2, .int (nI (0))), (1, .int (bd)), (0, .ref (ad (31 + w)))]) (lv_sub hl [0, 2, 1] rfl) (by subst_vars; rfl))
  · refine lv_iconst (v := (-1)) hx hb dX3_lowestUnsettled_41 (by decide) ?_
    exact w_iret hx hb hr hlocks hK hP hS ⟨h42.symm, by subst_vars; rfl, by subst_vars; rfl, by subst_vars; rfl⟩ dX3_lowestUnsettled_42
  · refine lv_iload_n hx hb dX3_lowestUnsettled_33 rfl (lv_at hl 0 rfl) ?_
    exact w_iret hx hb hr hlocks hK hP hS ⟨h33.symm, by subst_vars; rfl, by subst_vars; rfl, by subst_vars; rfl⟩ dX3_lowestUnsettled_34

/-- a push's state: the counter, and the rows -/
def pushI (I : SI) (w : Nat) : SI := st2 I (31 + w) 5 (I (31 + w) 5 + 1)
def landF (J : SJ) (w n : Nat) (d : Int32) : Int64 := J (39 + w) n * ((100 - d).toInt64) / 100
def pushJ (I : SI) (cn : Nat → Nat) (nb : Nat → Nat → Nat) (J : SJ) (w n : Nat) (d : Int32) : SJ :=
  sendJ I cn nb (st2 (st2 J (39 + w) n 0) (35 + w) n ((st2 J (39 + w) n 0) (35 + w) n + landF J w n d)) w n (J (39 + w) n - landF J w n d)

theorem inX3_push_X1 : ∀ w ∈ wsX10, w ∈ wsX3_push := by decide +kernel
theorem inX3_push_X3 : ∀ w ∈ wsX30, w ∈ wsX3_push := by decide +kernel
set_option maxHeartbeats 4000000 in
set_option maxRecDepth 100000 in
/-- X3_push -/
theorem c_X3_push (l : Launch) (nW : Nat) (D : va_G) (cA : Nat → ClassId) (ad : Nat → Nat) (hi : inj nW ad) (hNW : 102 ≤ nW) (I : SI) (J : SJ) (X : SX) (sz : Nat) (w n : Nat) (d : Int32) (hw4 : w < 4) (hn9 : n < 9) (cn : Nat → Nat) (nb : Nat → Nat → Nat) (hN : NetOK I cn nb) (hrd : I (31 + w) 1 = nI w) : Met l yX3_push wsX3_push ({ frames := 2, cells := 0, slots := 0, locals := 56 }) (va_Pc [.ref (ad (31 + w)), .ref (ad 1), .int (nI (n)), .int (d)] (wPre nW D cA ad I J X sz)) (qV nW D cA ad sz (pushI I w) (pushJ I cn nb J w n d) X) 0 0 (fr nW ad sz) := by
  refine Met.ofW (cc := cX3_push) (maxL := 8) (ret := none) (by decide) rfl ?_
  intro p e s m args below meth c s₁ B hml hv
  obtain ⟨rfl, rfl, hP, hK⟩ := hv
  have hx := B.exec
  have hb := B.bytes
  have hr := B.returns
  have hts := atoms_spec (ws := wsX3_push) B.pre
  have hown : s.vm.findClass RX3 = some m.cls := findClass_of_methodNamed B.named
  have hlocks := B.notSynchronized
  have hS : va_S (fr nW ad s.heap.size) s.heap s.heap [] := va_S.rf
  have hA : ∀ k, k < nW → fr nW ad s.heap.size (ad k) := fr_ad
  have hl := lv_entry ([.ref (ad (31 + w)), .ref (ad 1), .int (nI (n)), .int (d)]) (n := 8) (Nat.le_of_ble_eq_true rfl)
  rw [lg_entry_eq]
  generalize (lg_sl ([.ref (ad (31 + w)), .ref (ad 1), .int (nI (n)), .int (d)]) ++ List.replicate (8 - (lg_sl ([.ref (ad (31 + w)), .ref (ad 1), .int (nI (n)), .int (d)])).length) Slot.unset).toArray = ls at hl ⊢
  have hl : lv_has ls 8 [(0, .ref (ad (31 + w))), (1, .ref (ad 1)), (2, .int (nI (n))), (3, .int (d))] := hl
  have hS0 := hS
  suffices K : ∀ (H : Heap) (locs : List Loc), WP nW D cA ad I J X H → va_S (fr nW ad s.heap.size) s.heap H locs → W p l e (headSpec wsX3_push ({ frames := 2, cells := 0, slots := 0, locals := 56 })).room s m ([.ref (ad (31 + w)), .ref (ad 1), .int (nI (n)), .int (d)] : List Value).toArray below meth c H locs 0 0 (MQ below (qV nW D cA ad s.heap.size (pushI I w) (pushJ I cn nb J w n d) X) ([.ref (ad (31 + w)), .ref (ad 1), .int (nI (n)), .int (d)] : List Value).toArray s 0 0 (fr nW ad s.heap.size)) (F0 m 0 ls []) from K _ _ hP hS
  clear hP hS hS0
  intro H locs hP hS
  refine lv_aload_n hx hb dX3_push_0 rfl (lv_at hl 0 rfl) ?_
  refine w_get (C := RX3) (T := TX3) (N := 5) (v := .ref (ad (39 + w))) (index := 15) hx hb hts inX3_push_X3 hown hK hP (31 + w) 2 (k_walkf (by omega) (by decide)) (by omega) (fl_walk2 (by omega)) (List.mem_of_getElem? (i := 1) rfl) (fun _ h9 => h9) dX3_push_1 ?_
  refine lv_iload_n hx hb dX3_push_4 rfl (lv_at hl 2 rfl) ?_
  refine w_lald hx hb hK hP (39 + w) (n) (k_rest (by omega) (by omega)) (by omega) rfl dX3_push_5 ?_
  refine lv_topl (fun tk etk => ?_)
  refine lv_lstore (lv' := [(4, .long (tk)), (0, .ref (ad (31 + w))), (1, .ref (ad 1)), (2, .int (nI (n))), (3, .int (d))]) hx hb dX3_push_6 hl (by decide) rfl (fun ls hl => ?_)
  refine lv_lload hx hb dX3_push_8 (lv_at hl 0 rfl) ?_
  refine lv_bipush (v := 100) hx hb dX3_push_10 (by decide) ?_
  refine lv_iload_n hx hb dX3_push_12 rfl (lv_at hl 4 rfl) ?_
  refine lv_isub hx hb dX3_push_13 ?_
  refine lv_i2l (v := (100 - d).toInt64) hx hb dX3_push_14 rfl ?_
  refine lv_lmul hx hb dX3_push_15 ?_
  refine lv_ldc2 (v := 100) hx hb hown (hts (.constantLong RX3 49 (100)) (List.mem_of_getElem? (i := 2) rfl)) dX3_push_16 ?_
  refine lv_ldiv hx hb dX3_push_19 (by decide) ?_
  refine lv_topl (fun ld eld => ?_)
  refine lv_lstore (lv' := [(6, .long (ld)), (4, .long (tk)), (0, .ref (ad (31 + w))), (1, .ref (ad 1)), (2, .int (nI (n))), (3, .int (d))]) hx hb dX3_push_20 hl (by decide) rfl (fun ls hl => ?_)
  refine lv_aload_n hx hb dX3_push_22 rfl (lv_at hl 2 rfl) ?_
  refine w_get (C := RX3) (T := TX3) (N := 5) (v := .ref (ad (39 + w))) (index := 15) hx hb hts inX3_push_X3 hown hK hP (31 + w) 2 (k_walkf (by omega) (by decide)) (by omega) (fl_walk2 (by omega)) (List.mem_of_getElem? (i := 1) rfl) (fun _ h9 => h9) dX3_push_23 ?_
  refine lv_iload_n hx hb dX3_push_26 rfl (lv_at hl 4 rfl) ?_
  refine lv_lconst (v := 0) hx hb dX3_push_27 rfl ?_
  refine w_last (v := 0) hx hb hK hP hi hA hS (39 + w) (n) (k_rest (by omega) (by omega)) (by omega) rfl dX3_push_28 (fun H locs hP hS => ?_)
  obtain ⟨J_1, eJ_1⟩ : ∃ y, y = st2 J (39 + w) (n) (0) := ⟨_, rfl⟩
  have hP : WP nW D cA ad I J_1 X H := by rw [eJ_1]; exact hP
  refine lv_aload_n hx hb dX3_push_29 rfl (lv_at hl 2 rfl) ?_
  refine w_get (C := RX3) (T := TX3) (N := 5) (v := .ref (ad (35 + w))) (index := 9) hx hb hts inX3_push_X3 hown hK hP (31 + w) 1 (k_walkf (by omega) (by decide)) (by omega) (fl_walk1 (by omega)) (List.mem_of_getElem? (i := 3) rfl) (fun _ h9 => h9) dX3_push_30 ?_
  refine lv_iload_n hx hb dX3_push_33 rfl (lv_at hl 4 rfl) ?_
  refine lv_dup2_11 hx hb dX3_push_34 rfl rfl ?_
  refine w_lald hx hb hK hP (35 + w) (n) (k_land (by omega) (by omega)) (by omega) rfl dX3_push_35 ?_
  refine lv_lload hx hb dX3_push_36 (lv_at hl 0 rfl) ?_
  refine lv_ladd hx hb dX3_push_38 ?_
  refine w_last (v := (J_1 (35 + w) (n)) + ld) hx hb hK hP hi hA hS (35 + w) (n) (k_land (by omega) (by omega)) (by omega) rfl dX3_push_39 (fun H locs hP hS => ?_)
  obtain ⟨J_2, eJ_2⟩ : ∃ y, y = st2 J_1 (35 + w) (n) ((J_1 (35 + w) (n)) + ld) := ⟨_, rfl⟩
  have hP : WP nW D cA ad I J_2 X H := by rw [eJ_2]; exact hP
  refine lv_aload_n hx hb dX3_push_40 rfl (lv_at hl 2 rfl) ?_
  refine lv_aload_n hx hb dX3_push_41 rfl (lv_at hl 3 rfl) ?_
  refine lv_iload_n hx hb dX3_push_42 rfl (lv_at hl 4 rfl) ?_
  refine lv_lload hx hb dX3_push_43 (lv_at hl 1 rfl) ?_
  refine lv_lload hx hb dX3_push_45 (lv_at hl 0 rfl) ?_
  refine lv_lsub hx hb dX3_push_47 ?_
  refine w_callv (va_runV (As := [.ref (ad 1), .int (nI (n)), .long (tk - ld)]) (rest := []) ⟨hx, hb, hml, hown, hts⟩ (c_X3_send l nW D cA ad hi hNW I J_2 X H.size w n (tk - ld) (by omega) (by omega) cn nb hN hrd) (cwV 3 hts gX3_push_X3_send rfl rfl rfl (by decide +kernel) ⟨Nat.le_of_ble_eq_true rfl, Nat.le_of_ble_eq_true rfl⟩) (w_preV hK hP (31 + w) (by omega) (k_walk (by omega)) rfl) rfl rfl hl.1 rfl (lv_room (Nat.le_of_ble_eq_true rfl)) dX3_push_48 ⟨Nat.le_of_ble_eq_true rfl, Nat.le_of_ble_eq_true rfl⟩) hS (fun H locs hP hS => ?_)
  refine lv_aload_n hx hb dX3_push_51 rfl (lv_at hl 2 rfl) ?_
  refine lv_dup hx hb dX3_push_52 rfl ?_
  refine w_get (C := RX3) (T := TX3) (N := 5) (v := .int (I (31 + w) 5)) (index := 23) hx hb hts inX3_push_X3 hown hK hP (31 + w) 4 (k_walkf (by omega) (by decide)) (by omega) (fl_walk4 (by omega)) (List.mem_of_getElem? (i := 4) rfl) (fun _ h9 => h9) dX3_push_53 ?_
  refine lv_iconst (v := 1) hx hb dX3_push_56 (by decide) ?_
  refine lv_iadd hx hb dX3_push_57 ?_
  refine w_putq (C := RX3) (T := TX3) (N := 5) (index := 23) (v := (I (31 + w) 5) + 1) hx hb hts inX3_push_X3 tyX3 tyX3_ok nmX3 hown hK hP hi hA hS (31 + w) 4 5 (k_walkf (by omega) (by decide)) (by omega) (fl_walkS (by omega)) (fl_walkL (by omega)) (List.mem_of_getElem? (i := 4) rfl) (fun _ h9 => h9) rfl (by decide +kernel) dX3_push_58 (fun H locs hP hS => ?_)
  obtain ⟨I_3, eI_3⟩ : ∃ y, y = st2 I (31 + w) 5 ((I (31 + w) 5) + 1) := ⟨_, rfl⟩
  have hP : WP nW D cA ad I_3 (sendJ I cn nb J_2 w n (tk - ld)) X H := by rw [eI_3]; exact hP
  exact w_vret hx hb hr hlocks hK hP hS ⟨by subst_vars; rfl, by subst_vars; rfl, by subst_vars; rfl⟩ dX3_push_61

def tbL (J : SJ) (w n : Nat) : Nat → Int64 × SJ
  | 0 => (0, J)
  | o + 1 => ((tbL J w n o).1 + (tbL J w n o).2 (47 + 9 * w + n) o, st2 (st2 (tbL J w n o).2 (39 + w) o ((tbL J w n o).2 (39 + w) o - (tbL J w n o).2 (47 + 9 * w + n) o)) (47 + 9 * w + n) o 0)

theorem inX3_takeBack_X3 : ∀ w ∈ wsX30, w ∈ wsX3_takeBack := by decide +kernel
set_option maxHeartbeats 4000000 in
set_option maxRecDepth 100000 in
theorem lp_X3_takeBack {p : Program} {l : Launch} {e : Env} {s : State} {m : MethodId} {args : Array Value} {below : List Frame} {meth : Method} {c : Code} {Q : State → Prop} {nW : Nat} {D : va_G} {cA : Nat → ClassId} {ad : Nat → Nat} (hi : inj nW ad) (hNW : 102 ≤ nW) (hx : p.tables.exec = Jvm.exec) (hb : c.code = cX3_takeBack) (hml : c.maxLocals = 7) (hown : s.vm.findClass RX3 = some m.cls) (hts : ∀ w ∈ wsX3_takeBack, w.before args s = true) (hK : WK D cA s) (I : SI) (J : SJ) (X : SX) (w n : Nat) (hw4 : w < 4) (hn9 : n < 9) (kx :  ∀ (H : Heap) (locs : List Loc), WP nW D cA ad I ((tbL J w n 9).2) X H → va_S (fr nW ad s.heap.size) s.heap H locs → ∀ (ls : Array Slot), lv_has ls 7 [(2, .long ((tbL J w n 9).1)), (0, .ref (ad (31 + w)))] → W p l e (headSpec wsX3_takeBack ({ frames := 0, cells := 0, slots := 0, locals := 0 })).room s m args below meth c H locs 0 0 Q (F0 m 56 ls [])) : ∀ (t o : Nat), o + t = 9 →  ∀ (H : Heap) (locs : List Loc), WP nW D cA ad I ((tbL J w n (o)).2) X H → va_S (fr nW ad s.heap.size) s.heap H locs → ∀ (ls : Array Slot), lv_has ls 7 [(4, .int (nI (o))), (2, .long ((tbL J w n (o)).1)), (1, .int (nI (n))), (0, .ref (ad (31 + w)))] → W p l e (headSpec wsX3_takeBack ({ frames := 0, cells := 0, slots := 0, locals := 0 })).room s m args below meth c H locs 0 0 Q (F0 m 5 ls []) := by
  have hA : ∀ k, k < nW → fr nW ad s.heap.size (ad k) := fr_ad
  intro t
  induction t with
  | zero =>
    intro o hj  H locs hP hS ls hl
    obtain rfl : 9 = o := by omega
    refine lv_iload hx hb dX3_takeBack_5 (lv_at hl 0 rfl) ?_
    refine lv_bipush (v := 9) hx hb dX3_takeBack_7 (by decide) ?_
    refine lv_icmp_ge (tgt := 56) hx hb dX3_takeBack_9 (by decide) (fun cc => ?_) (fun cc => ?_)
    · have qcc : 9 ≤ 9 := (wn_le (a := 9) (b := 9) rfl rfl (by omega) (by omega)).mp cc
      exact kx  H locs (w_cong (I1 := I) (J1 := ((tbL J w n 9).2)) (X1 := X) hP ⟨rfl, (by subst_vars; rfl), rfl⟩) hS ls (lv_cong (l := [(2, .long ((tbL J w n (9)).1)), (0, .ref (ad (31 + w)))]) (l' := [(2, .long ((tbL J w n 9).1)), (0, .ref (ad (31 + w)))]) (lv_sub hl [1, 3] rfl) (by subst_vars; rfl))
    · have qcc : ¬ 9 ≤ 9 := fun z => cc ((wn_le (a := 9) (b := 9) rfl rfl (by omega) (by omega)).mpr z)
      exact absurd qcc (by omega)
  | succ t ih =>
    intro o hj  H locs hP hS ls hl
    refine lv_iload hx hb dX3_takeBack_5 (lv_at hl 0 rfl) ?_
    refine lv_bipush (v := 9) hx hb dX3_takeBack_7 (by decide) ?_
    refine lv_icmp_ge (tgt := 56) hx hb dX3_takeBack_9 (by decide) (fun cc => ?_) (fun cc => ?_)
    · have qcc : 9 ≤ o := (wn_le (a := 9) (b := o) rfl rfl (by omega) (by omega)).mp cc
      exact absurd qcc (by omega)
    · have qcc : ¬ 9 ≤ o := fun z => cc ((wn_le (a := 9) (b := o) rfl rfl (by omega) (by omega)).mpr z)
      refine lv_aload_n hx hb dX3_takeBack_12 rfl (lv_at hl 3 rfl) ?_
      refine w_get (C := RX3) (T := TX3) (N := 5) (v := .ref (ad (43 + w))) (index := 20) hx hb hts inX3_takeBack_X3 hown hK hP (31 + w) 3 (k_walkf (by omega) (by decide)) (by omega) (fl_walk3 (by omega)) (List.mem_of_getElem? (i := 1) rfl) (fun _ h9 => h9) dX3_takeBack_13 ?_
      refine lv_iload_n hx hb dX3_takeBack_16 rfl (lv_at hl 2 rfl) ?_
      refine w_aald hx hb hK hP (43 + w) (n) (47 + 9 * w) 5 (k_sendO (by omega) (by omega)) (by omega) rfl dX3_takeBack_17 ?_
      refine lv_iload hx hb dX3_takeBack_18 (lv_at hl 0 rfl) ?_
      refine w_lald hx hb hK hP (47 + 9 * w + n) (o) (k_send (by omega) (by omega) (by omega)) (by omega) rfl dX3_takeBack_20 ?_
      refine lv_topl (fun un eun => ?_)
      refine lv_lstore (lv' := [(5, .long (un)), (4, .int (nI (o))), (2, .long ((tbL J w n (o)).1)), (1, .int (nI (n))), (0, .ref (ad (31 + w)))]) hx hb dX3_takeBack_21 hl (by decide) rfl (fun ls hl => ?_)
      refine lv_lload_n hx hb dX3_takeBack_23 rfl (lv_at hl 2 rfl) ?_
      refine lv_lload hx hb dX3_takeBack_24 (lv_at hl 0 rfl) ?_
      refine lv_ladd hx hb dX3_takeBack_26 ?_
      refine lv_topl (fun al eal => ?_)
      refine lv_lstore_n (lv' := [(2, .long (al)), (5, .long (un)), (4, .int (nI (o))), (1, .int (nI (n))), (0, .ref (ad (31 + w)))]) hx hb dX3_takeBack_27 rfl hl (by decide) rfl (fun ls hl => ?_)
      refine lv_aload_n hx hb dX3_takeBack_28 rfl (lv_at hl 4 rfl) ?_
      refine w_get (C := RX3) (T := TX3) (N := 5) (v := .ref (ad (39 + w))) (index := 15) hx hb hts inX3_takeBack_X3 hown hK hP (31 + w) 2 (k_walkf (by omega) (by decide)) (by omega) (fl_walk2 (by omega)) (List.mem_of_getElem? (i := 2) rfl) (fun _ h9 => h9) dX3_takeBack_29 ?_
      refine lv_iload hx hb dX3_takeBack_32 (lv_at hl 2 rfl) ?_
      refine lv_dup2_11 hx hb dX3_takeBack_34 rfl rfl ?_
      refine w_lald hx hb hK hP (39 + w) (o) (k_rest (by omega) (by omega)) (by omega) rfl dX3_takeBack_35 ?_
      refine lv_lload hx hb dX3_takeBack_36 (lv_at hl 1 rfl) ?_
      refine lv_lsub hx hb dX3_takeBack_38 ?_
      refine w_last (v := (((tbL J w n (o)).2) (39 + w) (o)) - un) hx hb hK hP hi hA hS (39 + w) (o) (k_rest (by omega) (by omega)) (by omega) rfl dX3_takeBack_39 (fun H locs hP hS => ?_)
      obtain ⟨J_1, eJ_1⟩ : ∃ y, y = st2 ((tbL J w n (o)).2) (39 + w) (o) ((((tbL J w n (o)).2) (39 + w) (o)) - un) := ⟨_, rfl⟩
      have hP : WP nW D cA ad I J_1 X H := by rw [eJ_1]; exact hP
      refine lv_aload_n hx hb dX3_takeBack_40 rfl (lv_at hl 4 rfl) ?_
      refine w_get (C := RX3) (T := TX3) (N := 5) (v := .ref (ad (43 + w))) (index := 20) hx hb hts inX3_takeBack_X3 hown hK hP (31 + w) 3 (k_walkf (by omega) (by decide)) (by omega) (fl_walk3 (by omega)) (List.mem_of_getElem? (i := 1) rfl) (fun _ h9 => h9) dX3_takeBack_41 ?_
      refine lv_iload_n hx hb dX3_takeBack_44 rfl (lv_at hl 3 rfl) ?_
      refine w_aald hx hb hK hP (43 + w) (n) (47 + 9 * w) 5 (k_sendO (by omega) (by omega)) (by omega) rfl dX3_takeBack_45 ?_
      refine lv_iload hx hb dX3_takeBack_46 (lv_at hl 2 rfl) ?_
      refine lv_lconst (v := 0) hx hb dX3_takeBack_48 rfl ?_
      refine w_last (v := 0) hx hb hK hP hi hA hS (47 + 9 * w + n) (o) (k_send (by omega) (by omega) (by omega)) (by omega) rfl dX3_takeBack_49 (fun H locs hP hS => ?_)
      obtain ⟨J_2, eJ_2⟩ : ∃ y, y = st2 J_1 (47 + 9 * w + n) (o) (0) := ⟨_, rfl⟩
      have hP : WP nW D cA ad I J_2 X H := by rw [eJ_2]; exact hP
      refine lv_iinc (v := nI (o + 1)) (lv' := [(4, .int (nI (o + 1))), (2, .long (al)), (5, .long (un)), (1, .int (nI (n))), (0, .ref (ad (31 + w)))]) hx hb dX3_takeBack_50 hl (k := 2) rfl (wn_inc rfl) (by decide) rfl (fun ls hl => ?_)
      refine lv_goto (tgt := 5) hx hb dX3_takeBack_53 (by decide) ?_
      exact ih (o + 1) (by omega)  H locs (w_cong (I1 := I) (J1 := ((tbL J w n ((o + 1))).2)) (X1 := X) hP ⟨rfl, (by subst_vars; rfl), rfl⟩) hS ls (lv_cong (l := [(4, .int (nI (o + 1))), (2, .long (al)), (1, .int (nI (n))), (0, .ref (ad (31 + w)))]) (l' := [(4, .int (nI ((o + 1)))), (2, .long ((tbL J w n ((o + 1))).1)), (1, .int (nI (n))), (0, .ref (ad (31 + w)))]) (lv_sub hl [0, 1, 3, 4] rfl) (by subst_vars; rfl))

set_option maxHeartbeats 4000000 in
set_option maxRecDepth 100000 in
/-- X3_takeBack -/
theorem c_X3_takeBack (l : Launch) (nW : Nat) (D : va_G) (cA : Nat → ClassId) (ad : Nat → Nat) (hi : inj nW ad) (hNW : 102 ≤ nW) (I : SI) (J : SJ) (X : SX) (sz : Nat) (w n : Nat) (hw4 : w < 4) (hn9 : n < 9) : Met l yX3_takeBack wsX3_takeBack ({ frames := 0, cells := 0, slots := 0, locals := 0 }) (va_Pc [.ref (ad (31 + w)), .int (nI (n))] (wPre nW D cA ad I J X sz)) (qL nW D cA ad sz ((tbL J w n 9).1) I ((tbL J w n 9).2) X) 0 0 (fr nW ad sz) := by
  refine Met.ofW (cc := cX3_takeBack) (maxL := 7) (ret := (some .long)) (by decide) rfl ?_
  intro p e s m args below meth c s₁ B hml hv
  obtain ⟨rfl, rfl, hP, hK⟩ := hv
  have hx := B.exec
  have hb := B.bytes
  have hr := B.returns
  have hts := atoms_spec (ws := wsX3_takeBack) B.pre
  have hown : s.vm.findClass RX3 = some m.cls := findClass_of_methodNamed B.named
  have hlocks := B.notSynchronized
  have hS : va_S (fr nW ad s.heap.size) s.heap s.heap [] := va_S.rf
  have hA : ∀ k, k < nW → fr nW ad s.heap.size (ad k) := fr_ad
  have hl := lv_entry ([.ref (ad (31 + w)), .int (nI (n))]) (n := 7) (Nat.le_of_ble_eq_true rfl)
  rw [lg_entry_eq]
  generalize (lg_sl ([.ref (ad (31 + w)), .int (nI (n))]) ++ List.replicate (7 - (lg_sl ([.ref (ad (31 + w)), .int (nI (n))])).length) Slot.unset).toArray = ls at hl ⊢
  have hl : lv_has ls 7 [(0, .ref (ad (31 + w))), (1, .int (nI (n)))] := hl
  have hS0 := hS
  suffices K : ∀ (H : Heap) (locs : List Loc), WP nW D cA ad I J X H → va_S (fr nW ad s.heap.size) s.heap H locs → W p l e (headSpec wsX3_takeBack ({ frames := 0, cells := 0, slots := 0, locals := 0 })).room s m ([.ref (ad (31 + w)), .int (nI (n))] : List Value).toArray below meth c H locs 0 0 (MQ below (qL nW D cA ad s.heap.size ((tbL J w n 9).1) I ((tbL J w n 9).2) X) ([.ref (ad (31 + w)), .int (nI (n))] : List Value).toArray s 0 0 (fr nW ad s.heap.size)) (F0 m 0 ls []) from K _ _ hP hS
  clear hP hS hS0
  intro H locs hP hS
  refine lv_lconst (v := 0) hx hb dX3_takeBack_0 rfl ?_
  refine lv_lstore_n (lv' := [(2, .long (0)), (0, .ref (ad (31 + w))), (1, .int (nI (n)))]) hx hb dX3_takeBack_1 rfl hl (by decide) rfl (fun ls hl => ?_)
  refine lv_iconst (v := 0) hx hb dX3_takeBack_2 (by decide) ?_
  refine lv_istore (lv' := [(4, .int (0)), (2, .long (0)), (0, .ref (ad (31 + w))), (1, .int (nI (n)))]) hx hb dX3_takeBack_3 hl (by decide) rfl (fun ls hl => ?_)
  refine lp_X3_takeBack hi hNW hx hb hml hown hts hK I J X w n hw4 hn9 (fun  H locs hP hS ls hl => ?_) (9) (0) (by omega)  H locs (w_cong (I1 := I) (J1 := ((tbL J w n 0).2)) (X1 := X) hP ⟨rfl, (by subst_vars; rfl), rfl⟩) hS ls (lv_cong (l := [(4, .int (0)), (2, .long (0)), (1, .int (nI (n))), (0, .ref (ad (31 + w)))]) (l' := [(4, .int (nI (0))), (2, .long ((tbL J w n 0).1)), (1, .int (nI (n))), (0, .ref (ad (31 + w)))]) (lv_sub hl [0, 1, 3, 2] rfl) (by subst_vars; rfl))
  refine lv_lload_n hx hb dX3_takeBack_56 rfl (lv_at hl 0 rfl) ?_
  exact w_lret hx hb hr hlocks hK hP hS ⟨by subst_vars; rfl, by subst_vars; rfl, by subst_vars; rfl, by subst_vars; rfl⟩ dX3_takeBack_57

def mdL (I : SI) (cn : Nat → Nat) (nb : Nat → Nat → Nat) (J : SJ) (w : Nat) : Nat → SJ
  | 0 => J
  | n + 1 => sendJ I cn nb (tbL (mdL I cn nb J w n) w n 9).2 w n (tbL (mdL I cn nb J w n) w n 9).1

theorem inX3_mend_X1 : ∀ w ∈ wsX10, w ∈ wsX3_mend := by decide +kernel
theorem inX3_mend_X3 : ∀ w ∈ wsX30, w ∈ wsX3_mend := by decide +kernel
set_option maxHeartbeats 4000000 in
set_option maxRecDepth 100000 in
theorem lp_X3_mend {p : Program} {l : Launch} {e : Env} {s : State} {m : MethodId} {args : Array Value} {below : List Frame} {meth : Method} {c : Code} {Q : State → Prop} {nW : Nat} {D : va_G} {cA : Nat → ClassId} {ad : Nat → Nat} (hi : inj nW ad) (hNW : 102 ≤ nW) (hx : p.tables.exec = Jvm.exec) (hb : c.code = cX3_mend) (hml : c.maxLocals = 3) (hown : s.vm.findClass RX3 = some m.cls) (hts : ∀ w ∈ wsX3_mend, w.before args s = true) (hK : WK D cA s) (I : SI) (J : SJ) (X : SX) (w : Nat) (hw4 : w < 4) (cn : Nat → Nat) (nb : Nat → Nat → Nat) (hN : NetOK I cn nb) (hrd : I (31 + w) 1 = nI w) (kx :  ∀ (H : Heap) (locs : List Loc), WP nW D cA ad I (mdL I cn nb J w 9) X H → va_S (fr nW ad s.heap.size) s.heap H locs → ∀ (ls : Array Slot), lv_has ls 3 [(0, .ref (ad (31 + w)))] → W p l e (headSpec wsX3_mend ({ frames := 2, cells := 0, slots := 0, locals := 56 })).room s m args below meth c H locs 0 0 Q (F0 m 25 ls [])) : ∀ (t n : Nat), n + t = 9 →  ∀ (H : Heap) (locs : List Loc), WP nW D cA ad I (mdL I cn nb J w (n)) X H → va_S (fr nW ad s.heap.size) s.heap H locs → ∀ (ls : Array Slot), lv_has ls 3 [(2, .int (nI (n))), (1, .ref (ad 1)), (0, .ref (ad (31 + w)))] → W p l e (headSpec wsX3_mend ({ frames := 2, cells := 0, slots := 0, locals := 56 })).room s m args below meth c H locs 0 0 Q (F0 m 2 ls []) := by
  have hA : ∀ k, k < nW → fr nW ad s.heap.size (ad k) := fr_ad
  intro t
  induction t with
  | zero =>
    intro n hj  H locs hP hS ls hl
    obtain rfl : 9 = n := by omega
    refine lv_iload_n hx hb dX3_mend_2 rfl (lv_at hl 0 rfl) ?_
    refine lv_bipush (v := 9) hx hb dX3_mend_3 (by decide) ?_
    refine lv_icmp_ge (tgt := 25) hx hb dX3_mend_5 (by decide) (fun cc => ?_) (fun cc => ?_)
    · have qcc : 9 ≤ 9 := (wn_le (a := 9) (b := 9) rfl rfl (by omega) (by omega)).mp cc
      exact kx  H locs (w_cong (I1 := I) (J1 := (mdL I cn nb J w 9)) (X1 := X) hP ⟨rfl, (by subst_vars; rfl), rfl⟩) hS ls (lv_sub hl [2] rfl)
    · have qcc : ¬ 9 ≤ 9 := fun z => cc ((wn_le (a := 9) (b := 9) rfl rfl (by omega) (by omega)).mpr z)
      exact absurd qcc (by omega)
  | succ t ih =>
    intro n hj  H locs hP hS ls hl
    refine lv_iload_n hx hb dX3_mend_2 rfl (lv_at hl 0 rfl) ?_
    refine lv_bipush (v := 9) hx hb dX3_mend_3 (by decide) ?_
    refine lv_icmp_ge (tgt := 25) hx hb dX3_mend_5 (by decide) (fun cc => ?_) (fun cc => ?_)
    · have qcc : 9 ≤ n := (wn_le (a := 9) (b := n) rfl rfl (by omega) (by omega)).mp cc
      exact absurd qcc (by omega)
    · have qcc : ¬ 9 ≤ n := fun z => cc ((wn_le (a := 9) (b := n) rfl rfl (by omega) (by omega)).mpr z)
      refine lv_aload_n hx hb dX3_mend_8 rfl (lv_at hl 2 rfl) ?_
      refine lv_aload_n hx hb dX3_mend_9 rfl (lv_at hl 1 rfl) ?_
      refine lv_iload_n hx hb dX3_mend_10 rfl (lv_at hl 0 rfl) ?_
      refine lv_aload_n hx hb dX3_mend_11 rfl (lv_at hl 2 rfl) ?_
      refine lv_iload_n hx hb dX3_mend_12 rfl (lv_at hl 0 rfl) ?_
      refine w_calll (va_runV (As := [.int (nI (n))]) (rest := [.int (nI (n)), .ref (ad 1), .ref (ad (31 + w))]) ⟨hx, hb, hml, hown, hts⟩ (c_X3_takeBack l nW D cA ad hi hNW I (mdL I cn nb J w (n)) X H.size w n (by omega) (by omega)) (cwV 1 hts gX3_mend_X3_takeBack rfl rfl rfl (by decide +kernel) ⟨Nat.le_of_ble_eq_true rfl, Nat.le_of_ble_eq_true rfl⟩) (w_preV hK hP (31 + w) (by omega) (k_walk (by omega)) rfl) rfl rfl hl.1 rfl (lv_room (Nat.le_of_ble_eq_true rfl)) dX3_mend_13 ⟨Nat.le_of_ble_eq_true rfl, Nat.le_of_ble_eq_true rfl⟩) hS (fun H locs hP hS => ?_)
      refine w_callv (va_runV (As := [.ref (ad 1), .int (nI (n)), .long ((tbL (mdL I cn nb J w (n)) w n 9).1)]) (rest := []) ⟨hx, hb, hml, hown, hts⟩ (c_X3_send l nW D cA ad hi hNW I ((tbL (mdL I cn nb J w (n)) w n 9).2) X H.size w n ((tbL (mdL I cn nb J w (n)) w n 9).1) (by omega) (by omega) cn nb hN hrd) (cwV 3 hts gX3_mend_X3_send rfl rfl rfl (by decide +kernel) ⟨Nat.le_of_ble_eq_true rfl, Nat.le_of_ble_eq_true rfl⟩) (w_preV hK hP (31 + w) (by omega) (k_walk (by omega)) rfl) rfl rfl hl.1 rfl (lv_room (Nat.le_of_ble_eq_true rfl)) dX3_mend_16 ⟨Nat.le_of_ble_eq_true rfl, Nat.le_of_ble_eq_true rfl⟩) hS (fun H locs hP hS => ?_)
      refine lv_iinc (v := nI (n + 1)) (lv' := [(2, .int (nI (n + 1))), (1, .ref (ad 1)), (0, .ref (ad (31 + w)))]) hx hb dX3_mend_19 hl (k := 0) rfl (wn_inc rfl) (by decide) rfl (fun ls hl => ?_)
      refine lv_goto (tgt := 2) hx hb dX3_mend_22 (by decide) ?_
      exact ih (n + 1) (by omega)  H locs (w_cong (I1 := I) (J1 := (mdL I cn nb J w ((n + 1)))) (X1 := X) hP ⟨rfl, (by subst_vars; rfl), rfl⟩) hS ls (lv_cong (l := [(2, .int (nI (n + 1))), (1, .ref (ad 1)), (0, .ref (ad (31 + w)))]) (l' := [(2, .int (nI ((n + 1)))), (1, .ref (ad 1)), (0, .ref (ad (31 + w)))]) (lv_sub hl [0, 1, 2] rfl) (by subst_vars; rfl))

set_option maxHeartbeats 4000000 in
set_option maxRecDepth 100000 in
/-- X3_mend -/
theorem c_X3_mend (l : Launch) (nW : Nat) (D : va_G) (cA : Nat → ClassId) (ad : Nat → Nat) (hi : inj nW ad) (hNW : 102 ≤ nW) (I : SI) (J : SJ) (X : SX) (sz : Nat) (w : Nat) (hw4 : w < 4) (cn : Nat → Nat) (nb : Nat → Nat → Nat) (hN : NetOK I cn nb) (hrd : I (31 + w) 1 = nI w) : Met l yX3_mend wsX3_mend ({ frames := 2, cells := 0, slots := 0, locals := 56 }) (va_Pc [.ref (ad (31 + w)), .ref (ad 1)] (wPre nW D cA ad I J X sz)) (qV nW D cA ad sz I (mdL I cn nb J w 9) X) 0 0 (fr nW ad sz) := by
  refine Met.ofW (cc := cX3_mend) (maxL := 3) (ret := none) (by decide) rfl ?_
  intro p e s m args below meth c s₁ B hml hv
  obtain ⟨rfl, rfl, hP, hK⟩ := hv
  have hx := B.exec
  have hb := B.bytes
  have hr := B.returns
  have hts := atoms_spec (ws := wsX3_mend) B.pre
  have hown : s.vm.findClass RX3 = some m.cls := findClass_of_methodNamed B.named
  have hlocks := B.notSynchronized
  have hS : va_S (fr nW ad s.heap.size) s.heap s.heap [] := va_S.rf
  have hA : ∀ k, k < nW → fr nW ad s.heap.size (ad k) := fr_ad
  have hl := lv_entry ([.ref (ad (31 + w)), .ref (ad 1)]) (n := 3) (Nat.le_of_ble_eq_true rfl)
  rw [lg_entry_eq]
  generalize (lg_sl ([.ref (ad (31 + w)), .ref (ad 1)]) ++ List.replicate (3 - (lg_sl ([.ref (ad (31 + w)), .ref (ad 1)])).length) Slot.unset).toArray = ls at hl ⊢
  have hl : lv_has ls 3 [(0, .ref (ad (31 + w))), (1, .ref (ad 1))] := hl
  have hS0 := hS
  suffices K : ∀ (H : Heap) (locs : List Loc), WP nW D cA ad I J X H → va_S (fr nW ad s.heap.size) s.heap H locs → W p l e (headSpec wsX3_mend ({ frames := 2, cells := 0, slots := 0, locals := 56 })).room s m ([.ref (ad (31 + w)), .ref (ad 1)] : List Value).toArray below meth c H locs 0 0 (MQ below (qV nW D cA ad s.heap.size I (mdL I cn nb J w 9) X) ([.ref (ad (31 + w)), .ref (ad 1)] : List Value).toArray s 0 0 (fr nW ad s.heap.size)) (F0 m 0 ls []) from K _ _ hP hS
  clear hP hS hS0
  intro H locs hP hS
  refine lv_iconst (v := 0) hx hb dX3_mend_0 (by decide) ?_
  refine lv_istore_n (lv' := [(2, .int (0)), (0, .ref (ad (31 + w))), (1, .ref (ad 1))]) hx hb dX3_mend_1 rfl hl (by decide) rfl (fun ls hl => ?_)
  refine lp_X3_mend hi hNW hx hb hml hown hts hK I J X w hw4 cn nb hN hrd (fun  H locs hP hS ls hl => ?_) (9) (0) (by omega)  H locs (w_cong (I1 := I) (J1 := (mdL I cn nb J w 0)) (X1 := X) hP ⟨rfl, (by subst_vars; rfl), rfl⟩) hS ls (lv_cong (l := [(2, .int (0)), (1, .ref (ad 1)), (0, .ref (ad (31 + w)))]) (l' := [(2, .int (nI (0))), (1, .ref (ad 1)), (0, .ref (ad (31 + w)))]) (lv_sub hl [0, 2, 1] rfl) (by subst_vars; rfl))
  exact w_vret hx hb hr hlocks hK hP hS ⟨by subst_vars; rfl, by subst_vars; rfl, by subst_vars; rfl⟩ dX3_mend_25

def bgIn (J : SJ) (w n : Nat) : Nat → SJ
  | 0 => J
  | o + 1 => st2 (bgIn J w n o) (47 + 9 * w + n) o 0
def bgOut (J : SJ) (w : Nat) : Nat → SJ
  | 0 => J
  | n + 1 => bgIn (st2 (st2 (bgOut J w n) (35 + w) n 0) (39 + w) n 0) w n 9
def beginJ (J : SJ) (w : Nat) : SJ := st2 (bgOut J w 9) (39 + w) w 1000000

theorem inX3_begin_X3 : ∀ w ∈ wsX30, w ∈ wsX3_begin := by decide +kernel
set_option maxHeartbeats 4000000 in
set_option maxRecDepth 100000 in
theorem lp_X3_begin_B {p : Program} {l : Launch} {e : Env} {s : State} {m : MethodId} {args : Array Value} {below : List Frame} {meth : Method} {c : Code} {Q : State → Prop} {nW : Nat} {D : va_G} {cA : Nat → ClassId} {ad : Nat → Nat} (hi : inj nW ad) (hNW : 102 ≤ nW) (hx : p.tables.exec = Jvm.exec) (hb : c.code = cX3_begin) (hml : c.maxLocals = 3) (hown : s.vm.findClass RX3 = some m.cls) (hts : ∀ w ∈ wsX3_begin, w.before args s = true) (hK : WK D cA s) (I : SI) (J : SJ) (X : SX) (w n : Nat) (hw4 : w < 4) (hn9 : n < 9) (kx :  ∀ (H : Heap) (locs : List Loc), WP nW D cA ad I (bgIn J w n 9) X H → va_S (fr nW ad s.heap.size) s.heap H locs → ∀ (ls : Array Slot), lv_has ls 3 [(1, .int (nI (n))), (0, .ref (ad (31 + w)))] → W p l e (headSpec wsX3_begin ({ frames := 0, cells := 0, slots := 0, locals := 0 })).room s m args below meth c H locs 0 0 Q (F0 m 45 ls [])) : ∀ (t o : Nat), o + t = 9 →  ∀ (H : Heap) (locs : List Loc), WP nW D cA ad I (bgIn J w n (o)) X H → va_S (fr nW ad s.heap.size) s.heap H locs → ∀ (ls : Array Slot), lv_has ls 3 [(2, .int (nI (o))), (1, .int (nI (n))), (0, .ref (ad (31 + w)))] → W p l e (headSpec wsX3_begin ({ frames := 0, cells := 0, slots := 0, locals := 0 })).room s m args below meth c H locs 0 0 Q (F0 m 24 ls []) := by
  have hA : ∀ k, k < nW → fr nW ad s.heap.size (ad k) := fr_ad
  intro t
  induction t with
  | zero =>
    intro o hj  H locs hP hS ls hl
    obtain rfl : 9 = o := by omega
    refine lv_iload_n hx hb dX3_begin_24 rfl (lv_at hl 0 rfl) ?_
    refine lv_bipush (v := 9) hx hb dX3_begin_25 (by decide) ?_
    refine lv_icmp_ge (tgt := 45) hx hb dX3_begin_27 (by decide) (fun cc => ?_) (fun cc => ?_)
    · have qcc : 9 ≤ 9 := (wn_le (a := 9) (b := 9) rfl rfl (by omega) (by omega)).mp cc
      exact kx  H locs (w_cong (I1 := I) (J1 := (bgIn J w n 9)) (X1 := X) hP ⟨rfl, (by subst_vars; rfl), rfl⟩) hS ls (lv_sub hl [1, 2] rfl)
    · have qcc : ¬ 9 ≤ 9 := fun z => cc ((wn_le (a := 9) (b := 9) rfl rfl (by omega) (by omega)).mpr z)
      exact absurd qcc (by omega)
  | succ t ih =>
    intro o hj  H locs hP hS ls hl
    refine lv_iload_n hx hb dX3_begin_24 rfl (lv_at hl 0 rfl) ?_
    refine lv_bipush (v := 9) hx hb dX3_begin_25 (by decide) ?_
    refine lv_icmp_ge (tgt := 45) hx hb dX3_begin_27 (by decide) (fun cc => ?_) (fun cc => ?_)
    · have qcc : 9 ≤ o := (wn_le (a := 9) (b := o) rfl rfl (by omega) (by omega)).mp cc
      exact absurd qcc (by omega)
    · have qcc : ¬ 9 ≤ o := fun z => cc ((wn_le (a := 9) (b := o) rfl rfl (by omega) (by omega)).mpr z)
      refine lv_aload_n hx hb dX3_begin_30 rfl (lv_at hl 2 rfl) ?_
      refine w_get (C := RX3) (T := TX3) (N := 5) (v := .ref (ad (43 + w))) (index := 20) hx hb hts inX3_begin_X3 hown hK hP (31 + w) 3 (k_walkf (by omega) (by decide)) (by omega) (fl_walk3 (by omega)) (List.mem_of_getElem? (i := 3) rfl) (fun _ h9 => h9) dX3_begin_31 ?_
      refine lv_iload_n hx hb dX3_begin_34 rfl (lv_at hl 1 rfl) ?_
      refine w_aald hx hb hK hP (43 + w) (n) (47 + 9 * w) 5 (k_sendO (by omega) (by omega)) (by omega) rfl dX3_begin_35 ?_
      refine lv_iload_n hx hb dX3_begin_36 rfl (lv_at hl 0 rfl) ?_
      refine lv_lconst (v := 0) hx hb dX3_begin_37 rfl ?_
      refine w_last (v := 0) hx hb hK hP hi hA hS (47 + 9 * w + n) (o) (k_send (by omega) (by omega) (by omega)) (by omega) rfl dX3_begin_38 (fun H locs hP hS => ?_)
      obtain ⟨J_1, eJ_1⟩ : ∃ y, y = st2 (bgIn J w n (o)) (47 + 9 * w + n) (o) (0) := ⟨_, rfl⟩
      have hP : WP nW D cA ad I J_1 X H := by rw [eJ_1]; exact hP
      refine lv_iinc (v := nI (o + 1)) (lv' := [(2, .int (nI (o + 1))), (1, .int (nI (n))), (0, .ref (ad (31 + w)))]) hx hb dX3_begin_39 hl (k := 0) rfl (wn_inc rfl) (by decide) rfl (fun ls hl => ?_)
      refine lv_goto (tgt := 24) hx hb dX3_begin_42 (by decide) ?_
      exact ih (o + 1) (by omega)  H locs (w_cong (I1 := I) (J1 := (bgIn J w n ((o + 1)))) (X1 := X) hP ⟨rfl, (by subst_vars; rfl), rfl⟩) hS ls (lv_cong (l := [(2, .int (nI (o + 1))), (1, .int (nI (n))), (0, .ref (ad (31 + w)))]) (l' := [(2, .int (nI ((o + 1)))), (1, .int (nI (n))), (0, .ref (ad (31 + w)))]) (lv_sub hl [0, 1, 2] rfl) (by subst_vars; rfl))

set_option maxHeartbeats 4000000 in
set_option maxRecDepth 100000 in
theorem lp_X3_begin_A {p : Program} {l : Launch} {e : Env} {s : State} {m : MethodId} {args : Array Value} {below : List Frame} {meth : Method} {c : Code} {Q : State → Prop} {nW : Nat} {D : va_G} {cA : Nat → ClassId} {ad : Nat → Nat} (hi : inj nW ad) (hNW : 102 ≤ nW) (hx : p.tables.exec = Jvm.exec) (hb : c.code = cX3_begin) (hml : c.maxLocals = 3) (hown : s.vm.findClass RX3 = some m.cls) (hts : ∀ w ∈ wsX3_begin, w.before args s = true) (hK : WK D cA s) (I : SI) (J : SJ) (X : SX) (w : Nat) (hw4 : w < 4) (kx :  ∀ (H : Heap) (locs : List Loc), WP nW D cA ad I (bgOut J w 9) X H → va_S (fr nW ad s.heap.size) s.heap H locs → ∀ (ls : Array Slot), lv_has ls 3 [(0, .ref (ad (31 + w)))] → W p l e (headSpec wsX3_begin ({ frames := 0, cells := 0, slots := 0, locals := 0 })).room s m args below meth c H locs 0 0 Q (F0 m 51 ls [])) : ∀ (t n : Nat), n + t = 9 →  ∀ (H : Heap) (locs : List Loc), WP nW D cA ad I (bgOut J w (n)) X H → va_S (fr nW ad s.heap.size) s.heap H locs → ∀ (ls : Array Slot), lv_has ls 3 [(1, .int (nI (n))), (0, .ref (ad (31 + w)))] → W p l e (headSpec wsX3_begin ({ frames := 0, cells := 0, slots := 0, locals := 0 })).room s m args below meth c H locs 0 0 Q (F0 m 2 ls []) := by
  have hA : ∀ k, k < nW → fr nW ad s.heap.size (ad k) := fr_ad
  intro t
  induction t with
  | zero =>
    intro n hj  H locs hP hS ls hl
    obtain rfl : 9 = n := by omega
    refine lv_iload_n hx hb dX3_begin_2 rfl (lv_at hl 0 rfl) ?_
    refine lv_bipush (v := 9) hx hb dX3_begin_3 (by decide) ?_
    refine lv_icmp_ge (tgt := 51) hx hb dX3_begin_5 (by decide) (fun cc => ?_) (fun cc => ?_)
    · have qcc : 9 ≤ 9 := (wn_le (a := 9) (b := 9) rfl rfl (by omega) (by omega)).mp cc
      exact kx  H locs (w_cong (I1 := I) (J1 := (bgOut J w 9)) (X1 := X) hP ⟨rfl, (by subst_vars; rfl), rfl⟩) hS ls (lv_sub hl [1] rfl)
    · have qcc : ¬ 9 ≤ 9 := fun z => cc ((wn_le (a := 9) (b := 9) rfl rfl (by omega) (by omega)).mpr z)
      exact absurd qcc (by omega)
  | succ t ih =>
    intro n hj  H locs hP hS ls hl
    refine lv_iload_n hx hb dX3_begin_2 rfl (lv_at hl 0 rfl) ?_
    refine lv_bipush (v := 9) hx hb dX3_begin_3 (by decide) ?_
    refine lv_icmp_ge (tgt := 51) hx hb dX3_begin_5 (by decide) (fun cc => ?_) (fun cc => ?_)
    · have qcc : 9 ≤ n := (wn_le (a := 9) (b := n) rfl rfl (by omega) (by omega)).mp cc
      exact absurd qcc (by omega)
    · have qcc : ¬ 9 ≤ n := fun z => cc ((wn_le (a := 9) (b := n) rfl rfl (by omega) (by omega)).mpr z)
      refine lv_aload_n hx hb dX3_begin_8 rfl (lv_at hl 1 rfl) ?_
      refine w_get (C := RX3) (T := TX3) (N := 5) (v := .ref (ad (35 + w))) (index := 9) hx hb hts inX3_begin_X3 hown hK hP (31 + w) 1 (k_walkf (by omega) (by decide)) (by omega) (fl_walk1 (by omega)) (List.mem_of_getElem? (i := 1) rfl) (fun _ h9 => h9) dX3_begin_9 ?_
      refine lv_iload_n hx hb dX3_begin_12 rfl (lv_at hl 0 rfl) ?_
      refine lv_lconst (v := 0) hx hb dX3_begin_13 rfl ?_
      refine w_last (v := 0) hx hb hK hP hi hA hS (35 + w) (n) (k_land (by omega) (by omega)) (by omega) rfl dX3_begin_14 (fun H locs hP hS => ?_)
      obtain ⟨J_1, eJ_1⟩ : ∃ y, y = st2 (bgOut J w (n)) (35 + w) (n) (0) := ⟨_, rfl⟩
      have hP : WP nW D cA ad I J_1 X H := by rw [eJ_1]; exact hP
      refine lv_aload_n hx hb dX3_begin_15 rfl (lv_at hl 1 rfl) ?_
      refine w_get (C := RX3) (T := TX3) (N := 5) (v := .ref (ad (39 + w))) (index := 15) hx hb hts inX3_begin_X3 hown hK hP (31 + w) 2 (k_walkf (by omega) (by decide)) (by omega) (fl_walk2 (by omega)) (List.mem_of_getElem? (i := 2) rfl) (fun _ h9 => h9) dX3_begin_16 ?_
      refine lv_iload_n hx hb dX3_begin_19 rfl (lv_at hl 0 rfl) ?_
      refine lv_lconst (v := 0) hx hb dX3_begin_20 rfl ?_
      refine w_last (v := 0) hx hb hK hP hi hA hS (39 + w) (n) (k_rest (by omega) (by omega)) (by omega) rfl dX3_begin_21 (fun H locs hP hS => ?_)
      obtain ⟨J_2, eJ_2⟩ : ∃ y, y = st2 J_1 (39 + w) (n) (0) := ⟨_, rfl⟩
      have hP : WP nW D cA ad I J_2 X H := by rw [eJ_2]; exact hP
      refine lv_iconst (v := 0) hx hb dX3_begin_22 (by decide) ?_
      refine lv_istore_n (lv' := [(2, .int (0)), (1, .int (nI (n))), (0, .ref (ad (31 + w)))]) hx hb dX3_begin_23 rfl hl (by decide) rfl (fun ls hl => ?_)
      refine lp_X3_begin_B hi hNW hx hb hml hown hts hK I J_2 X w n hw4 (by omega) (fun  H locs hP hS ls hl => ?_) (9) (0) (by omega)  H locs (w_cong (I1 := I) (J1 := (bgIn J_2 w n 0)) (X1 := X) hP ⟨rfl, (by subst_vars; rfl), rfl⟩) hS ls (lv_cong (l := [(2, .int (0)), (1, .int (nI (n))), (0, .ref (ad (31 + w)))]) (l' := [(2, .int (nI (0))), (1, .int (nI (n))), (0, .ref (ad (31 + w)))]) (lv_sub hl [0, 1, 2] rfl) (by subst_vars; rfl))
      refine lv_iinc (v := nI (n + 1)) (lv' := [(1, .int (nI (n + 1))), (0, .ref (ad (31 + w)))]) hx hb dX3_begin_45 hl (k := 0) rfl (wn_inc rfl) (by decide) rfl (fun ls hl => ?_)
      refine lv_goto (tgt := 2) hx hb dX3_begin_48 (by decide) ?_
      exact ih (n + 1) (by omega)  H locs (w_cong (I1 := I) (J1 := (bgOut J w ((n + 1)))) (X1 := X) hP ⟨rfl, (by subst_vars; rfl), rfl⟩) hS ls (lv_cong (l := [(1, .int (nI (n + 1))), (0, .ref (ad (31 + w)))]) (l' := [(1, .int (nI ((n + 1)))), (0, .ref (ad (31 + w)))]) (lv_sub hl [0, 1] rfl) (by subst_vars; rfl))

set_option maxHeartbeats 4000000 in
set_option maxRecDepth 100000 in
/-- X3_begin -/
theorem c_X3_begin (l : Launch) (nW : Nat) (D : va_G) (cA : Nat → ClassId) (ad : Nat → Nat) (hi : inj nW ad) (hNW : 102 ≤ nW) (I : SI) (J : SJ) (X : SX) (sz : Nat) (w : Nat) (hw4 : w < 4) (hrd : I (31 + w) 1 = nI w) : Met l yX3_begin wsX3_begin ({ frames := 0, cells := 0, slots := 0, locals := 0 }) (va_Pc [.ref (ad (31 + w))] (wPre nW D cA ad I J X sz)) (qV nW D cA ad sz I (beginJ J w) X) 0 0 (fr nW ad sz) := by
  refine Met.ofW (cc := cX3_begin) (maxL := 3) (ret := none) (by decide) rfl ?_
  intro p e s m args below meth c s₁ B hml hv
  obtain ⟨rfl, rfl, hP, hK⟩ := hv
  have hx := B.exec
  have hb := B.bytes
  have hr := B.returns
  have hts := atoms_spec (ws := wsX3_begin) B.pre
  have hown : s.vm.findClass RX3 = some m.cls := findClass_of_methodNamed B.named
  have hlocks := B.notSynchronized
  have hS : va_S (fr nW ad s.heap.size) s.heap s.heap [] := va_S.rf
  have hA : ∀ k, k < nW → fr nW ad s.heap.size (ad k) := fr_ad
  have hl := lv_entry ([.ref (ad (31 + w))]) (n := 3) (Nat.le_of_ble_eq_true rfl)
  rw [lg_entry_eq]
  generalize (lg_sl ([.ref (ad (31 + w))]) ++ List.replicate (3 - (lg_sl ([.ref (ad (31 + w))])).length) Slot.unset).toArray = ls at hl ⊢
  have hl : lv_has ls 3 [(0, .ref (ad (31 + w)))] := hl
  have hS0 := hS
  suffices K : ∀ (H : Heap) (locs : List Loc), WP nW D cA ad I J X H → va_S (fr nW ad s.heap.size) s.heap H locs → W p l e (headSpec wsX3_begin ({ frames := 0, cells := 0, slots := 0, locals := 0 })).room s m ([.ref (ad (31 + w))] : List Value).toArray below meth c H locs 0 0 (MQ below (qV nW D cA ad s.heap.size I (beginJ J w) X) ([.ref (ad (31 + w))] : List Value).toArray s 0 0 (fr nW ad s.heap.size)) (F0 m 0 ls []) from K _ _ hP hS
  clear hP hS hS0
  intro H locs hP hS
  refine lv_iconst (v := 0) hx hb dX3_begin_0 (by decide) ?_
  refine lv_istore_n (lv' := [(1, .int (0)), (0, .ref (ad (31 + w)))]) hx hb dX3_begin_1 rfl hl (by decide) rfl (fun ls hl => ?_)
  refine lp_X3_begin_A hi hNW hx hb hml hown hts hK I J X w hw4 (fun  H locs hP hS ls hl => ?_) (9) (0) (by omega)  H locs (w_cong (I1 := I) (J1 := (bgOut J w 0)) (X1 := X) hP ⟨rfl, (by subst_vars; rfl), rfl⟩) hS ls (lv_cong (l := [(1, .int (0)), (0, .ref (ad (31 + w)))]) (l' := [(1, .int (nI (0))), (0, .ref (ad (31 + w)))]) (lv_sub hl [0, 1] rfl) (by subst_vars; rfl))
  refine lv_aload_n hx hb dX3_begin_51 rfl (lv_at hl 0 rfl) ?_
  refine w_get (C := RX3) (T := TX3) (N := 5) (v := .ref (ad (39 + w))) (index := 15) hx hb hts inX3_begin_X3 hown hK hP (31 + w) 2 (k_walkf (by omega) (by decide)) (by omega) (fl_walk2 (by omega)) (List.mem_of_getElem? (i := 2) rfl) (fun _ h9 => h9) dX3_begin_52 ?_
  refine lv_aload_n hx hb dX3_begin_55 rfl (lv_at hl 0 rfl) ?_
  refine w_get (C := RX3) (T := TX3) (N := 5) (v := .int (I (31 + w) 1)) (index := 27) hx hb hts inX3_begin_X3 hown hK hP (31 + w) 0 (k_walkf (by omega) (by decide)) (by omega) (fl_walk0 (by omega)) (List.mem_of_getElem? (i := 4) rfl) (fun _ h9 => h9) dX3_begin_56 ?_
  refine w_topN (a := w) hrd ?_
  refine lv_ldc2 (v := 1000000) hx hb hown (hts (.constantLong RX3 30 (1000000)) (List.mem_of_getElem? (i := 5) rfl)) dX3_begin_59 ?_
  refine w_last (v := 1000000) hx hb hK hP hi hA hS (39 + w) (w) (k_rest (by omega) (by omega)) (by omega) rfl dX3_begin_62 (fun H locs hP hS => ?_)
  obtain ⟨J_1, eJ_1⟩ : ∃ y, y = st2 (bgOut J w 9) (39 + w) (w) (1000000) := ⟨_, rfl⟩
  have hP : WP nW D cA ad I J_1 X H := by rw [eJ_1]; exact hP
  exact w_vret hx hb hr hlocks hK hP hS ⟨by subst_vars; rfl, by subst_vars; rfl, by subst_vars; rfl⟩ dX3_begin_63
