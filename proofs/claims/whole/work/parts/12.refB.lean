/-! the reference's settling, beginning, mending: pure -/
def runM (lo : Nat → Nat → Nat) (v : Nat) : Nat → SI → SJ → Option (SI × SJ)
  | 0, I, J => if nxF J v (I 102 3) 9 0 = -1 then some (I, J) else none
  | f + 1, I, J => if nxF J v (I 102 3) 9 0 = -1 then some (I, J) else runM lo v f (pushMI I) (pushM I lo J v (nxF J v (I 102 3) 9 0).toNatClampNeg)
theorem nxF_or1 {J : SJ} {v : Nat} {bd : Int32} : ∀ t j, nxF J v bd t j = -1 ∨ ∃ n, j ≤ n ∧ n < j + t ∧ nxF J v bd t j = nI n
  | 0, _ => Or.inl rfl
  | t + 1, j => by
    unfold nxF
    by_cases h : unM J v j bd = true
    · rw [if_pos h]; exact Or.inr ⟨j, Nat.le_refl _, by omega, rfl⟩
    · rw [if_neg h]
      rcases nxF_or1 (J := J) (v := v) (bd := bd) t (j + 1) with q | ⟨n, q1, q2, q3⟩
      · exact Or.inl q
      · exact Or.inr ⟨n, by omega, by omega, q3⟩
theorem nxF_or (J : SJ) (v : Nat) (bd : Int32) : nxF J v bd 9 0 = -1 ∨ ∃ n, n < 9 ∧ nxF J v bd 9 0 = nI n := by
  rcases nxF_or1 (J := J) (v := v) (bd := bd) 9 0 with q | ⟨n, q1, q2, q3⟩
  · exact Or.inl q
  · exact Or.inr ⟨n, by omega, q3⟩
theorem loM_102 {I : SI} {f : Nat} {x : Int32} (n m : Nat) : loM (st2 I 102 f x) n m = loM I n m := by
  unfold loM loR
  rw [st2_k _ _ (show 104 ≠ 102 by decide), st2_k _ _ (show 103 ≠ 102 by decide)]
theorem alM_102 {I : SI} {f : Nat} {x : Int32} (n : Nat) : ∀ m, alM (st2 I 102 f x) n m = alM I n m
  | 0 => rfl
  | m + 1 => by unfold alM; rw [alM_102 n m, loM_102]
theorem fromM_102 {I : SI} {f : Nat} {x : Int32} (v n m : Nat) : fromM (st2 I 102 f x) v n m = fromM I v n m := by
  unfold fromM allM
  rw [alM_102, loM_102]
theorem RefOK_102 {I : SI} {f : Nat} {x : Int32} {lo : Nat → Nat → Nat} (h : RefOK I lo) : RefOK (st2 I 102 f x) lo := fun v n hv hn => ⟨(h v n hv hn).1, by rw [fromM_102]; exact (h v n hv hn).2.1, fun k hk => by rw [fromM_102]; exact (h v n hv hn).2.2 k hk⟩
def SettOK (lo : Nat → Nat → Nat) (Is : Nat → SI) (Js : Nat → SJ) : Prop := ∀ v, v < 4 → RefOK (Is v) lo ∧ ∃ f, runM lo v f (Is v) (Js v) = some (Is (v + 1), Js (v + 1))
def bm1 (J : SJ) : Nat → SJ
  | 0 => J
  | k + 1 => st2 (bm1 J k) 107 k 0
def bm2 (J : SJ) : Nat → SJ
  | 0 => J
  | k + 1 => st2 (st2 (bm2 J k) 106 k 0) 105 k (if k % 9 = k / 9 then 1000000 else 0)
def beginM (J : SJ) : SJ := bm2 (bm1 J 324) 36
def tkM (J : SJ) (v n : Nat) : Nat → Int64 × SJ
  | 0 => (0, J)
  | o + 1 => ((tkM J v n o).1 + (tkM J v n o).2 107 (81 * v + 9 * n + o), st2 (st2 (tkM J v n o).2 105 (9 * v + o) ((tkM J v n o).2 105 (9 * v + o) - (tkM J v n o).2 107 (81 * v + 9 * n + o))) 107 (81 * v + 9 * n + o) 0)
def mdM (I : SI) (lo : Nat → Nat → Nat) (J : SJ) (v : Nat) : Nat → SJ
  | 0 => J
  | n + 1 => sendM I (tkM (mdM I lo J v n) v n 9).2 v n (tkM (mdM I lo J v n) v n 9).1 (lo v n)
def mdA (I : SI) (lo : Nat → Nat → Nat) (J : SJ) : Nat → SJ
  | 0 => J
  | v + 1 => mdM I lo (mdA I lo J v) v 9

theorem inX5_settles_X5 : ∀ w ∈ wsX50, w ∈ wsX5_settles := by decide +kernel
set_option maxHeartbeats 4000000 in
set_option maxRecDepth 100000 in
theorem lp_X5_settles_in {p : Program} {l : Launch} {e : Env} {s : State} {m : MethodId} {args : Array Value} {below : List Frame} {meth : Method} {c : Code} {Q : State → Prop} {nW : Nat} {D : va_G} {cA : Nat → ClassId} {ad : Nat → Nat} (hi : inj nW ad) (hNW : 114 ≤ nW) (hx : p.tables.exec = Jvm.exec) (hb : c.code = cX5_settles) (hml : c.maxLocals = 3) (hown : s.vm.findClass RX5 = some m.cls) (hts : ∀ w ∈ wsX5_settles, w.before args s = true) (hK : WK D cA s) (X : SX) (v : Nat) (hv4 : v < 4) (lo : Nat → Nat → Nat) (I' : SI) (J' : SJ) (kx : ∀ (H : Heap) (locs : List Loc), WP nW D cA ad (I') (J') X H → va_S (fr nW ad s.heap.size) s.heap H locs → ∀ (ls : Array Slot), lv_has ls 3 [(1, .int (nI (v))), (0, .ref (ad 102))] → W p l e (headSpec wsX5_settles ({ frames := 5, cells := 0, slots := 0, locals := 128 })).room s m args below meth c H locs 0 0 Q (F0 m 32 ls [])) : ∀ (f : Nat) (I : SI) (J : SJ), RefOK I lo → runM lo v f I J = some (I', J') → ∀ (H : Heap) (locs : List Loc), WP nW D cA ad I J X H → va_S (fr nW ad s.heap.size) s.heap H locs → ∀ (ls : Array Slot), lv_has ls 3 [(2, .int (nxF J v (I 102 3) 9 0)), (1, .int (nI (v))), (0, .ref (ad 102))] → W p l e (headSpec wsX5_settles ({ frames := 5, cells := 0, slots := 0, locals := 128 })).room s m args below meth c H locs 0 0 Q (F0 m 13 ls []) := by
  have hA : ∀ k, k < nW → fr nW ad s.heap.size (ad k) := fr_ad
  intro f
  induction f with
  | zero =>
    intro I J hlo hrun H locs hP hS ls hl
    rcases nxF_or J v (I 102 3) with hz | ⟨nd, hnd, hz⟩
    · rw [hz] at hl
      unfold runM at hrun
      rw [if_pos hz] at hrun
      obtain ⟨rfl, rfl⟩ := Prod.mk.inj (Option.some.inj hrun)
      refine lv_iload_n hx hb dX5_settles_13 rfl (lv_at hl 0 rfl) ?_
      refine lv_if_lt (tgt := 32) hx hb dX5_settles_14 (by decide) (fun c14 => ?_) (fun c14 => ?_)
      · exact kx H locs hP hS ls (lv_sub hl [1, 2] rfl)
      · exact absurd (by decide) c14
    · unfold runM at hrun
      rw [if_neg (by rw [hz]; exact nI_nm1 hnd)] at hrun
      cases hrun
  | succ f ih =>
    intro I J hlo hrun H locs hP hS ls hl
    rcases nxF_or J v (I 102 3) with hz | ⟨nd, hnd, hz⟩
    · rw [hz] at hl
      unfold runM at hrun
      rw [if_pos hz] at hrun
      obtain ⟨rfl, rfl⟩ := Prod.mk.inj (Option.some.inj hrun)
      refine lv_iload_n hx hb dX5_settles_13 rfl (lv_at hl 0 rfl) ?_
      refine lv_if_lt (tgt := 32) hx hb dX5_settles_14 (by decide) (fun c14 => ?_) (fun c14 => ?_)
      · exact kx H locs hP hS ls (lv_sub hl [1, 2] rfl)
      · exact absurd (by decide) c14
    · rw [hz] at hl
      unfold runM at hrun
      rw [if_neg (by rw [hz]; exact nI_nm1 hnd), hz, nI_clamp (by omega)] at hrun
      refine lv_iload_n hx hb dX5_settles_13 rfl (lv_at hl 0 rfl) ?_
      refine lv_if_lt (tgt := 32) hx hb dX5_settles_14 (by decide) (fun c14 => ?_) (fun c14 => ?_)
      · exact absurd c14 (nI_pos (by omega))
      · refine lv_aload_n hx hb dX5_settles_17 rfl (lv_at hl 2 rfl) ?_
        refine lv_iload_n hx hb dX5_settles_18 rfl (lv_at hl 1 rfl) ?_
        refine lv_iload_n hx hb dX5_settles_19 rfl (lv_at hl 0 rfl) ?_
        refine w_callv (va_runV (As := [.int (nI (v)), .int (nI (nd))]) (rest := []) ⟨hx, hb, hml, hown, hts⟩ (c_X5_push l nW D cA ad hi hNW I J X H.size v nd (by omega) (by omega) lo hlo) (cwV 2 hts gX5_settles_X5_push rfl rfl rfl (by decide +kernel) ⟨Nat.le_of_ble_eq_true rfl, Nat.le_of_ble_eq_true rfl⟩) (w_preV hK hP 102 (by omega) ⟨rfl, rfl⟩ rfl) rfl rfl hl.1 rfl (lv_room (Nat.le_of_ble_eq_true rfl)) dX5_settles_20 ⟨Nat.le_of_ble_eq_true rfl, Nat.le_of_ble_eq_true rfl⟩) hS (fun H locs hP hS => ?_)
        refine lv_aload_n hx hb dX5_settles_23 rfl (lv_at hl 2 rfl) ?_
        refine lv_iload_n hx hb dX5_settles_24 rfl (lv_at hl 1 rfl) ?_
        refine w_calli (va_runV (As := [.int (nI (v))]) (rest := []) ⟨hx, hb, hml, hown, hts⟩ (c_X5_next l nW D cA ad hi hNW (pushMI I) (pushM I lo J v nd) X H.size v (by omega)) (cwV 1 hts gX5_settles_X5_next rfl rfl rfl (by decide +kernel) ⟨Nat.le_of_ble_eq_true rfl, Nat.le_of_ble_eq_true rfl⟩) (w_preV hK hP 102 (by omega) ⟨rfl, rfl⟩ rfl) rfl rfl hl.1 rfl (lv_room (Nat.le_of_ble_eq_true rfl)) dX5_settles_25 ⟨Nat.le_of_ble_eq_true rfl, Nat.le_of_ble_eq_true rfl⟩) hS (fun H locs hP hS => ?_)
        refine lv_topi (fun x_1 ex_1 => ?_)
        refine lv_istore_n (lv' := [(2, .int (x_1)), (1, .int (nI (v))), (0, .ref (ad 102))]) hx hb dX5_settles_28 rfl hl (by decide) rfl (fun ls hl => ?_)
        refine lv_goto (tgt := 13) hx hb dX5_settles_29 (by decide) ?_
        exact ih (pushMI I) (pushM I lo J v nd) (RefOK_102 hlo) hrun H locs hP hS ls (lv_cong (l := [(2, .int (x_1)), (1, .int (nI (v))), (0, .ref (ad 102))]) (l' := [(2, .int (nxF (pushM I lo J v nd) v ((pushMI I) 102 3) 9 0)), (1, .int (nI (v))), (0, .ref (ad 102))]) (lv_sub hl [0, 1, 2] rfl) (by subst_vars; rfl))

set_option maxHeartbeats 4000000 in
set_option maxRecDepth 100000 in
theorem lp_X5_settles {p : Program} {l : Launch} {e : Env} {s : State} {m : MethodId} {args : Array Value} {below : List Frame} {meth : Method} {c : Code} {Q : State → Prop} {nW : Nat} {D : va_G} {cA : Nat → ClassId} {ad : Nat → Nat} (hi : inj nW ad) (hNW : 114 ≤ nW) (hx : p.tables.exec = Jvm.exec) (hb : c.code = cX5_settles) (hml : c.maxLocals = 3) (hown : s.vm.findClass RX5 = some m.cls) (hts : ∀ w ∈ wsX5_settles, w.before args s = true) (hK : WK D cA s) (I : SI) (J : SJ) (X : SX) (lo : Nat → Nat → Nat) (Is : Nat → SI) (Js : Nat → SJ) (hM : SettOK lo Is Js) (kx :  ∀ (H : Heap) (locs : List Loc), WP nW D cA ad (Is 4) (Js 4) X H → va_S (fr nW ad s.heap.size) s.heap H locs → ∀ (ls : Array Slot), lv_has ls 3 [(0, .ref (ad 102))] → W p l e (headSpec wsX5_settles ({ frames := 5, cells := 0, slots := 0, locals := 128 })).room s m args below meth c H locs 0 0 Q (F0 m 38 ls [])) : ∀ (t v : Nat), v + t = 4 →  ∀ (H : Heap) (locs : List Loc), WP nW D cA ad (Is (v)) (Js (v)) X H → va_S (fr nW ad s.heap.size) s.heap H locs → ∀ (ls : Array Slot), lv_has ls 3 [(1, .int (nI (v))), (0, .ref (ad 102))] → W p l e (headSpec wsX5_settles ({ frames := 5, cells := 0, slots := 0, locals := 128 })).room s m args below meth c H locs 0 0 Q (F0 m 2 ls []) := by
  have hA : ∀ k, k < nW → fr nW ad s.heap.size (ad k) := fr_ad
  intro t
  induction t with
  | zero =>
    intro v hj  H locs hP hS ls hl
    obtain rfl : 4 = v := by omega
    refine lv_iload_n hx hb dX5_settles_2 rfl (lv_at hl 0 rfl) ?_
    refine lv_iconst (v := 4) hx hb dX5_settles_3 (by decide) ?_
    refine lv_icmp_ge (tgt := 38) hx hb dX5_settles_4 (by decide) (fun cc => ?_) (fun cc => ?_)
    · have qcc : 4 ≤ 4 := (wn_le (a := 4) (b := 4) rfl rfl (by omega) (by omega)).mp cc
      exact kx  H locs (w_cong (I1 := (Is 4)) (J1 := (Js 4)) (X1 := X) hP ⟨(by subst_vars; rfl), (by subst_vars; rfl), rfl⟩) hS ls (lv_sub hl [1] rfl)
    · have qcc : ¬ 4 ≤ 4 := fun z => cc ((wn_le (a := 4) (b := 4) rfl rfl (by omega) (by omega)).mpr z)
      exact absurd qcc (by omega)
  | succ t ih =>
    intro v hj  H locs hP hS ls hl
    obtain ⟨hlo, f, hrun⟩ := hM v (by omega)
    refine lv_iload_n hx hb dX5_settles_2 rfl (lv_at hl 0 rfl) ?_
    refine lv_iconst (v := 4) hx hb dX5_settles_3 (by decide) ?_
    refine lv_icmp_ge (tgt := 38) hx hb dX5_settles_4 (by decide) (fun cc => ?_) (fun cc => ?_)
    · have qcc : 4 ≤ v := (wn_le (a := 4) (b := v) rfl rfl (by omega) (by omega)).mp cc
      exact absurd qcc (by omega)
    · have qcc : ¬ 4 ≤ v := fun z => cc ((wn_le (a := 4) (b := v) rfl rfl (by omega) (by omega)).mpr z)
      refine lv_aload_n hx hb dX5_settles_7 rfl (lv_at hl 1 rfl) ?_
      refine lv_iload_n hx hb dX5_settles_8 rfl (lv_at hl 0 rfl) ?_
      refine w_calli (va_runV (As := [.int (nI (v))]) (rest := []) ⟨hx, hb, hml, hown, hts⟩ (c_X5_next l nW D cA ad hi hNW (Is (v)) (Js (v)) X H.size v (by omega)) (cwV 1 hts gX5_settles_X5_next rfl rfl rfl (by decide +kernel) ⟨Nat.le_of_ble_eq_true rfl, Nat.le_of_ble_eq_true rfl⟩) (w_preV hK hP 102 (by omega) ⟨rfl, rfl⟩ rfl) rfl rfl hl.1 rfl (lv_room (Nat.le_of_ble_eq_true rfl)) dX5_settles_9 ⟨Nat.le_of_ble_eq_true rfl, Nat.le_of_ble_eq_true rfl⟩) hS (fun H locs hP hS => ?_)
      refine lv_istore_n (lv' := [(2, .int (nxF (Js (v)) v ((Is (v)) 102 3) 9 0)), (1, .int (nI (v))), (0, .ref (ad 102))]) hx hb dX5_settles_12 rfl hl (by decide) rfl (fun ls hl => ?_)
      refine lp_X5_settles_in hi hNW hx hb hml hown hts hK X v (by omega) lo (Is (v + 1)) (Js (v + 1)) (fun H locs hP hS ls hl => ?_) f (Is v) (Js v) hlo hrun H locs hP hS ls (lv_cong (l := [(2, .int (nxF (Js (v)) v ((Is (v)) 102 3) 9 0)), (1, .int (nI (v))), (0, .ref (ad 102))]) (l' := [(2, .int (nxF (Js v) v (Is v 102 3) 9 0)), (1, .int (nI (v))), (0, .ref (ad 102))]) (lv_sub hl [0, 1, 2] rfl) (by subst_vars; rfl))
      refine lv_iinc (v := nI (v + 1)) (lv' := [(1, .int (nI (v + 1))), (0, .ref (ad 102))]) hx hb dX5_settles_32 hl (k := 0) rfl (wn_inc rfl) (by decide) rfl (fun ls hl => ?_)
      refine lv_goto (tgt := 2) hx hb dX5_settles_35 (by decide) ?_
      exact ih (v + 1) (by omega)  H locs (w_cong (I1 := (Is ((v + 1)))) (J1 := (Js ((v + 1)))) (X1 := X) hP ⟨(by subst_vars; rfl), (by subst_vars; rfl), rfl⟩) hS ls (lv_cong (l := [(1, .int (nI (v + 1))), (0, .ref (ad 102))]) (l' := [(1, .int (nI ((v + 1)))), (0, .ref (ad 102))]) (lv_sub hl [0, 1] rfl) (by subst_vars; rfl))

set_option maxHeartbeats 4000000 in
set_option maxRecDepth 100000 in
/-- X5_settles -/
theorem c_X5_settles (l : Launch) (nW : Nat) (D : va_G) (cA : Nat → ClassId) (ad : Nat → Nat) (hi : inj nW ad) (hNW : 114 ≤ nW) (I : SI) (J : SJ) (X : SX) (sz : Nat) (lo : Nat → Nat → Nat) (Is : Nat → SI) (Js : Nat → SJ) (hM : SettOK lo Is Js) (h0 : I = Is 0) (j0 : J = Js 0) : Met l yX5_settles wsX5_settles ({ frames := 5, cells := 0, slots := 0, locals := 128 }) (va_Pc [.ref (ad 102)] (wPre nW D cA ad I J X sz)) (qV nW D cA ad sz (Is 4) (Js 4) X) 0 0 (fr nW ad sz) := by
  refine Met.ofW (cc := cX5_settles) (maxL := 3) (ret := none) (by decide) rfl ?_
  intro p e s m args below meth c s₁ B hml hv
  obtain ⟨rfl, rfl, hP, hK⟩ := hv
  have hx := B.exec
  have hb := B.bytes
  have hr := B.returns
  have hts := atoms_spec (ws := wsX5_settles) B.pre
  have hown : s.vm.findClass RX5 = some m.cls := findClass_of_methodNamed B.named
  have hlocks := B.notSynchronized
  have hS : va_S (fr nW ad s.heap.size) s.heap s.heap [] := va_S.rf
  have hA : ∀ k, k < nW → fr nW ad s.heap.size (ad k) := fr_ad
  have hl := lv_entry ([.ref (ad 102)]) (n := 3) (Nat.le_of_ble_eq_true rfl)
  rw [lg_entry_eq]
  generalize (lg_sl ([.ref (ad 102)]) ++ List.replicate (3 - (lg_sl ([.ref (ad 102)])).length) Slot.unset).toArray = ls at hl ⊢
  have hl : lv_has ls 3 [(0, .ref (ad 102))] := hl
  have hS0 := hS
  suffices K : ∀ (H : Heap) (locs : List Loc), WP nW D cA ad I J X H → va_S (fr nW ad s.heap.size) s.heap H locs → W p l e (headSpec wsX5_settles ({ frames := 5, cells := 0, slots := 0, locals := 128 })).room s m ([.ref (ad 102)] : List Value).toArray below meth c H locs 0 0 (MQ below (qV nW D cA ad s.heap.size (Is 4) (Js 4) X) ([.ref (ad 102)] : List Value).toArray s 0 0 (fr nW ad s.heap.size)) (F0 m 0 ls []) from K _ _ hP hS
  clear hP hS hS0
  intro H locs hP hS
  refine lv_iconst (v := 0) hx hb dX5_settles_0 (by decide) ?_
  refine lv_istore_n (lv' := [(1, .int (0)), (0, .ref (ad 102))]) hx hb dX5_settles_1 rfl hl (by decide) rfl (fun ls hl => ?_)
  refine lp_X5_settles hi hNW hx hb hml hown hts hK I J X lo Is Js hM (fun  H locs hP hS ls hl => ?_) (4) (0) (by omega)  H locs (w_cong (I1 := (Is 0)) (J1 := (Js 0)) (X1 := X) hP ⟨(by first | exact h0 | exact j0 | (subst_vars; rfl)), (by first | exact h0 | exact j0 | (subst_vars; rfl)), rfl⟩) hS ls (lv_cong (l := [(1, .int (0)), (0, .ref (ad 102))]) (l' := [(1, .int (nI (0))), (0, .ref (ad 102))]) (lv_sub hl [0, 1] rfl) (by first | exact h0 | exact j0 | (subst_vars; rfl)))
  exact w_vret hx hb hr hlocks hK hP hS ⟨by subst_vars; rfl, by subst_vars; rfl, by subst_vars; rfl⟩ dX5_settles_38

theorem inX5_begins_X5 : ∀ w ∈ wsX50, w ∈ wsX5_begins := by decide +kernel
set_option maxHeartbeats 4000000 in
set_option maxRecDepth 100000 in
theorem lp_X5_begins_A {p : Program} {l : Launch} {e : Env} {s : State} {m : MethodId} {args : Array Value} {below : List Frame} {meth : Method} {c : Code} {Q : State → Prop} {nW : Nat} {D : va_G} {cA : Nat → ClassId} {ad : Nat → Nat} (hi : inj nW ad) (hNW : 114 ≤ nW) (hx : p.tables.exec = Jvm.exec) (hb : c.code = cX5_begins) (hml : c.maxLocals = 2) (hown : s.vm.findClass RX5 = some m.cls) (hts : ∀ w ∈ wsX5_begins, w.before args s = true) (hK : WK D cA s) (I : SI) (J : SJ) (X : SX)  (kx :  ∀ (H : Heap) (locs : List Loc), WP nW D cA ad I (bm1 J 324) X H → va_S (fr nW ad s.heap.size) s.heap H locs → ∀ (ls : Array Slot), lv_has ls 2 [(0, .ref (ad 102))] → W p l e (headSpec wsX5_begins ({ frames := 6, cells := 0, slots := 0, locals := 150 })).room s m args below meth c H locs 0 0 Q (F0 m 22 ls [])) : ∀ (t k : Nat), k + t = 324 →  ∀ (H : Heap) (locs : List Loc), WP nW D cA ad I (bm1 J (k)) X H → va_S (fr nW ad s.heap.size) s.heap H locs → ∀ (ls : Array Slot), lv_has ls 2 [(1, .int (nI (k))), (0, .ref (ad 102))] → W p l e (headSpec wsX5_begins ({ frames := 6, cells := 0, slots := 0, locals := 150 })).room s m args below meth c H locs 0 0 Q (F0 m 2 ls []) := by
  have hA : ∀ k, k < nW → fr nW ad s.heap.size (ad k) := fr_ad
  intro t
  induction t with
  | zero =>
    intro k hj  H locs hP hS ls hl
    obtain rfl : 324 = k := by omega
    refine lv_iload_n hx hb dX5_begins_2 rfl (lv_at hl 0 rfl) ?_
    refine lv_sipush (v := 324) hx hb dX5_begins_3 (by decide) ?_
    refine lv_icmp_ge (tgt := 22) hx hb dX5_begins_6 (by decide) (fun cc => ?_) (fun cc => ?_)
    · have qcc : 324 ≤ 324 := (wn_le (a := 324) (b := 324) rfl rfl (by omega) (by omega)).mp cc
      exact kx  H locs (w_cong (I1 := I) (J1 := (bm1 J 324)) (X1 := X) hP ⟨rfl, (by subst_vars; rfl), rfl⟩) hS ls (lv_sub hl [1] rfl)
    · have qcc : ¬ 324 ≤ 324 := fun z => cc ((wn_le (a := 324) (b := 324) rfl rfl (by omega) (by omega)).mpr z)
      exact absurd qcc (by omega)
  | succ t ih =>
    intro k hj  H locs hP hS ls hl
    refine lv_iload_n hx hb dX5_begins_2 rfl (lv_at hl 0 rfl) ?_
    refine lv_sipush (v := 324) hx hb dX5_begins_3 (by decide) ?_
    refine lv_icmp_ge (tgt := 22) hx hb dX5_begins_6 (by decide) (fun cc => ?_) (fun cc => ?_)
    · have qcc : 324 ≤ k := (wn_le (a := 324) (b := k) rfl rfl (by omega) (by omega)).mp cc
      exact absurd qcc (by omega)
    · have qcc : ¬ 324 ≤ k := fun z => cc ((wn_le (a := 324) (b := k) rfl rfl (by omega) (by omega)).mpr z)
      refine lv_aload_n hx hb dX5_begins_9 rfl (lv_at hl 1 rfl) ?_
      refine w_get (C := RX5) (T := TX5) (N := 15) (v := .ref (ad 107)) (index := 30) hx hb hts inX5_begins_X5 hown hK hP 102 7 ⟨rfl, rfl, by decide⟩ (by omega) rfl (List.mem_of_getElem? (i := 1) rfl) (fun _ h9 => h9) dX5_begins_10 ?_
      refine lv_iload_n hx hb dX5_begins_13 rfl (lv_at hl 0 rfl) ?_
      refine lv_lconst (v := 0) hx hb dX5_begins_14 rfl ?_
      refine w_last (v := 0) hx hb hK hP hi hA hS 107 (k) ⟨rfl, (by show k < 324; omega)⟩ (by omega) rfl dX5_begins_15 (fun H locs hP hS => ?_)
      obtain ⟨J_1, eJ_1⟩ : ∃ y, y = st2 (bm1 J (k)) 107 (k) (0) := ⟨_, rfl⟩
      have hP : WP nW D cA ad I J_1 X H := by rw [eJ_1]; exact hP
      refine lv_iinc (v := nI (k + 1)) (lv' := [(1, .int (nI (k + 1))), (0, .ref (ad 102))]) hx hb dX5_begins_16 hl (k := 0) rfl (wn_inc rfl) (by decide) rfl (fun ls hl => ?_)
      refine lv_goto (tgt := 2) hx hb dX5_begins_19 (by decide) ?_
      exact ih (k + 1) (by omega)  H locs (w_cong (I1 := I) (J1 := (bm1 J ((k + 1)))) (X1 := X) hP ⟨rfl, (by subst_vars; rfl), rfl⟩) hS ls (lv_cong (l := [(1, .int (nI (k + 1))), (0, .ref (ad 102))]) (l' := [(1, .int (nI ((k + 1)))), (0, .ref (ad 102))]) (lv_sub hl [0, 1] rfl) (by subst_vars; rfl))

set_option maxHeartbeats 4000000 in
set_option maxRecDepth 100000 in
theorem lp_X5_begins_B {p : Program} {l : Launch} {e : Env} {s : State} {m : MethodId} {args : Array Value} {below : List Frame} {meth : Method} {c : Code} {Q : State → Prop} {nW : Nat} {D : va_G} {cA : Nat → ClassId} {ad : Nat → Nat} (hi : inj nW ad) (hNW : 114 ≤ nW) (hx : p.tables.exec = Jvm.exec) (hb : c.code = cX5_begins) (hml : c.maxLocals = 2) (hown : s.vm.findClass RX5 = some m.cls) (hts : ∀ w ∈ wsX5_begins, w.before args s = true) (hK : WK D cA s) (I : SI) (J : SJ) (X : SX)  (kx :  ∀ (H : Heap) (locs : List Loc), WP nW D cA ad I (bm2 J 36) X H → va_S (fr nW ad s.heap.size) s.heap H locs → ∀ (ls : Array Slot), lv_has ls 2 [(0, .ref (ad 102))] → W p l e (headSpec wsX5_begins ({ frames := 6, cells := 0, slots := 0, locals := 150 })).room s m args below meth c H locs 0 0 Q (F0 m 67 ls [])) : ∀ (t k : Nat), k + t = 36 →  ∀ (H : Heap) (locs : List Loc), WP nW D cA ad I (bm2 J (k)) X H → va_S (fr nW ad s.heap.size) s.heap H locs → ∀ (ls : Array Slot), lv_has ls 2 [(1, .int (nI (k))), (0, .ref (ad 102))] → W p l e (headSpec wsX5_begins ({ frames := 6, cells := 0, slots := 0, locals := 150 })).room s m args below meth c H locs 0 0 Q (F0 m 24 ls []) := by
  have hA : ∀ k, k < nW → fr nW ad s.heap.size (ad k) := fr_ad
  intro t
  induction t with
  | zero =>
    intro k hj  H locs hP hS ls hl
    obtain rfl : 36 = k := by omega
    refine lv_iload_n hx hb dX5_begins_24 rfl (lv_at hl 0 rfl) ?_
    refine lv_bipush (v := 36) hx hb dX5_begins_25 (by decide) ?_
    refine lv_icmp_ge (tgt := 67) hx hb dX5_begins_27 (by decide) (fun cc => ?_) (fun cc => ?_)
    · have qcc : 36 ≤ 36 := (wn_le (a := 36) (b := 36) rfl rfl (by omega) (by omega)).mp cc
      exact kx  H locs (w_cong (I1 := I) (J1 := (bm2 J 36)) (X1 := X) hP ⟨rfl, (by subst_vars; rfl), rfl⟩) hS ls (lv_sub hl [1] rfl)
    · have qcc : ¬ 36 ≤ 36 := fun z => cc ((wn_le (a := 36) (b := 36) rfl rfl (by omega) (by omega)).mpr z)
      exact absurd qcc (by omega)
  | succ t ih =>
    intro k hj  H locs hP hS ls hl
    refine lv_iload_n hx hb dX5_begins_24 rfl (lv_at hl 0 rfl) ?_
    refine lv_bipush (v := 36) hx hb dX5_begins_25 (by decide) ?_
    refine lv_icmp_ge (tgt := 67) hx hb dX5_begins_27 (by decide) (fun cc => ?_) (fun cc => ?_)
    · have qcc : 36 ≤ k := (wn_le (a := 36) (b := k) rfl rfl (by omega) (by omega)).mp cc
      exact absurd qcc (by omega)
    · have qcc : ¬ 36 ≤ k := fun z => cc ((wn_le (a := 36) (b := k) rfl rfl (by omega) (by omega)).mpr z)
      refine lv_aload_n hx hb dX5_begins_30 rfl (lv_at hl 1 rfl) ?_
      refine w_get (C := RX5) (T := TX5) (N := 15) (v := .ref (ad 106)) (index := 27) hx hb hts inX5_begins_X5 hown hK hP 102 6 ⟨rfl, rfl, by decide⟩ (by omega) rfl (List.mem_of_getElem? (i := 2) rfl) (fun _ h9 => h9) dX5_begins_31 ?_
      refine lv_iload_n hx hb dX5_begins_34 rfl (lv_at hl 0 rfl) ?_
      refine lv_lconst (v := 0) hx hb dX5_begins_35 rfl ?_
      refine w_last (v := 0) hx hb hK hP hi hA hS 106 (k) ⟨rfl, (by show k < 36; omega)⟩ (by omega) rfl dX5_begins_36 (fun H locs hP hS => ?_)
      obtain ⟨J_1, eJ_1⟩ : ∃ y, y = st2 (bm2 J (k)) 106 (k) (0) := ⟨_, rfl⟩
      have hP : WP nW D cA ad I J_1 X H := by rw [eJ_1]; exact hP
      refine lv_aload_n hx hb dX5_begins_37 rfl (lv_at hl 1 rfl) ?_
      refine w_get (C := RX5) (T := TX5) (N := 15) (v := .ref (ad 105)) (index := 23) hx hb hts inX5_begins_X5 hown hK hP 102 5 ⟨rfl, rfl, by decide⟩ (by omega) rfl (List.mem_of_getElem? (i := 3) rfl) (fun _ h9 => h9) dX5_begins_38 ?_
      refine lv_iload_n hx hb dX5_begins_41 rfl (lv_at hl 0 rfl) ?_
      refine lv_iload_n hx hb dX5_begins_42 rfl (lv_at hl 0 rfl) ?_
      refine lv_bipush (v := 9) hx hb dX5_begins_43 (by decide) ?_
      refine lv_irem hx hb dX5_begins_45 (by decide) ?_
      refine w_topN (a := (k % 9)) (pk_rem (a := k) (d := 9) (by omega) (by decide) (by decide)) ?_
      refine lv_iload_n hx hb dX5_begins_46 rfl (lv_at hl 0 rfl) ?_
      refine lv_bipush (v := 9) hx hb dX5_begins_47 (by decide) ?_
      refine lv_idiv hx hb dX5_begins_49 (by decide) ?_
      refine w_topN (a := (k / 9)) (pk_div (a := k) (d := 9) (by omega) (by decide) (by decide)) ?_
      refine lv_icmp_ne (tgt := 59) hx hb dX5_begins_50 (by decide) (fun c50 => ?_) (fun c50 => ?_)
      · have qc50 : ¬ (k % 9) = (k / 9) := fun z => c50 ((wn_eq (a := (k % 9)) (b := (k / 9)) rfl rfl (by omega) (by omega)).mpr z)
        have hz : ¬ k % 9 = k / 9 := qc50
        refine lv_lconst (v := 0) hx hb dX5_begins_59 rfl ?_
        refine w_last (v := 0) hx hb hK hP hi hA hS 105 (k) ⟨rfl, (by show k < 36; omega)⟩ (by omega) rfl dX5_begins_60 (fun H locs hP hS => ?_)
        obtain ⟨J_2, eJ_2⟩ : ∃ y, y = st2 J_1 105 (k) (0) := ⟨_, rfl⟩
        have hP : WP nW D cA ad I J_2 X H := by rw [eJ_2]; exact hP
        refine lv_iinc (v := nI (k + 1)) (lv' := [(1, .int (nI (k + 1))), (0, .ref (ad 102))]) hx hb dX5_begins_61 hl (k := 0) rfl (wn_inc rfl) (by decide) rfl (fun ls hl => ?_)
        refine lv_goto (tgt := 24) hx hb dX5_begins_64 (by decide) ?_
        exact ih (k + 1) (by omega)  H locs (w_cong (I1 := I) (J1 := (bm2 J ((k + 1)))) (X1 := X) hP ⟨rfl, (by subst_vars; first | rfl | (simp only [bm2, if_pos hz]; done) | (simp only [bm2, if_neg hz]; done)), rfl⟩) hS ls (lv_cong (l := [(1, .int (nI (k + 1))), (0, .ref (ad 102))]) (l' := [(1, .int (nI ((k + 1)))), (0, .ref (ad 102))]) (lv_sub hl [0, 1] rfl) (by subst_vars; first | rfl | (simp only [bm2, if_pos hz]; done) | (simp only [bm2, if_neg hz]; done)))
      · have qc50 : (k % 9) = (k / 9) := (wn_eq (a := (k % 9)) (b := (k / 9)) rfl rfl (by omega) (by omega)).mp c50
        have hz : k % 9 = k / 9 := qc50
        refine lv_ldc2 (v := 1000000) hx hb hown (hts (.constantLong RX5 89 (1000000)) (List.mem_of_getElem? (i := 4) rfl)) dX5_begins_53 ?_
        refine lv_goto (tgt := 60) hx hb dX5_begins_56 (by decide) ?_
        refine w_last (v := 1000000) hx hb hK hP hi hA hS 105 (k) ⟨rfl, (by show k < 36; omega)⟩ (by omega) rfl dX5_begins_60 (fun H locs hP hS => ?_)
        obtain ⟨J_3, eJ_3⟩ : ∃ y, y = st2 J_1 105 (k) (1000000) := ⟨_, rfl⟩
        have hP : WP nW D cA ad I J_3 X H := by rw [eJ_3]; exact hP
        refine lv_iinc (v := nI (k + 1)) (lv' := [(1, .int (nI (k + 1))), (0, .ref (ad 102))]) hx hb dX5_begins_61 hl (k := 0) rfl (wn_inc rfl) (by decide) rfl (fun ls hl => ?_)
        refine lv_goto (tgt := 24) hx hb dX5_begins_64 (by decide) ?_
        exact ih (k + 1) (by omega)  H locs (w_cong (I1 := I) (J1 := (bm2 J ((k + 1)))) (X1 := X) hP ⟨rfl, (by subst_vars; first | rfl | (simp only [bm2, if_pos hz]; done) | (simp only [bm2, if_neg hz]; done)), rfl⟩) hS ls (lv_cong (l := [(1, .int (nI (k + 1))), (0, .ref (ad 102))]) (l' := [(1, .int (nI ((k + 1)))), (0, .ref (ad 102))]) (lv_sub hl [0, 1] rfl) (by subst_vars; first | rfl | (simp only [bm2, if_pos hz]; done) | (simp only [bm2, if_neg hz]; done)))

set_option maxHeartbeats 4000000 in
set_option maxRecDepth 100000 in
/-- X5_begins -/
theorem c_X5_begins (l : Launch) (nW : Nat) (D : va_G) (cA : Nat → ClassId) (ad : Nat → Nat) (hi : inj nW ad) (hNW : 114 ≤ nW) (I : SI) (J : SJ) (X : SX) (sz : Nat) (lo : Nat → Nat → Nat) (Is : Nat → SI) (Js : Nat → SJ) (hM : SettOK lo Is Js) (h0 : I = Is 0) (j0 : beginM J = Js 0) : Met l yX5_begins wsX5_begins ({ frames := 6, cells := 0, slots := 0, locals := 150 }) (va_Pc [.ref (ad 102)] (wPre nW D cA ad I J X sz)) (qV nW D cA ad sz (Is 4) (Js 4) X) 0 0 (fr nW ad sz) := by
  refine Met.ofW (cc := cX5_begins) (maxL := 2) (ret := none) (by decide) rfl ?_
  intro p e s m args below meth c s₁ B hml hv
  obtain ⟨rfl, rfl, hP, hK⟩ := hv
  have hx := B.exec
  have hb := B.bytes
  have hr := B.returns
  have hts := atoms_spec (ws := wsX5_begins) B.pre
  have hown : s.vm.findClass RX5 = some m.cls := findClass_of_methodNamed B.named
  have hlocks := B.notSynchronized
  have hS : va_S (fr nW ad s.heap.size) s.heap s.heap [] := va_S.rf
  have hA : ∀ k, k < nW → fr nW ad s.heap.size (ad k) := fr_ad
  have hl := lv_entry ([.ref (ad 102)]) (n := 2) (Nat.le_of_ble_eq_true rfl)
  rw [lg_entry_eq]
  generalize (lg_sl ([.ref (ad 102)]) ++ List.replicate (2 - (lg_sl ([.ref (ad 102)])).length) Slot.unset).toArray = ls at hl ⊢
  have hl : lv_has ls 2 [(0, .ref (ad 102))] := hl
  have hS0 := hS
  suffices K : ∀ (H : Heap) (locs : List Loc), WP nW D cA ad I J X H → va_S (fr nW ad s.heap.size) s.heap H locs → W p l e (headSpec wsX5_begins ({ frames := 6, cells := 0, slots := 0, locals := 150 })).room s m ([.ref (ad 102)] : List Value).toArray below meth c H locs 0 0 (MQ below (qV nW D cA ad s.heap.size (Is 4) (Js 4) X) ([.ref (ad 102)] : List Value).toArray s 0 0 (fr nW ad s.heap.size)) (F0 m 0 ls []) from K _ _ hP hS
  clear hP hS hS0
  intro H locs hP hS
  refine lv_iconst (v := 0) hx hb dX5_begins_0 (by decide) ?_
  refine lv_istore_n (lv' := [(1, .int (0)), (0, .ref (ad 102))]) hx hb dX5_begins_1 rfl hl (by decide) rfl (fun ls hl => ?_)
  refine lp_X5_begins_A hi hNW hx hb hml hown hts hK I J X  (fun  H locs hP hS ls hl => ?_) (324) (0) (by omega)  H locs (w_cong (I1 := I) (J1 := (bm1 J 0)) (X1 := X) hP ⟨rfl, (by subst_vars; rfl), rfl⟩) hS ls (lv_cong (l := [(1, .int (0)), (0, .ref (ad 102))]) (l' := [(1, .int (nI (0))), (0, .ref (ad 102))]) (lv_sub hl [0, 1] rfl) (by subst_vars; rfl))
  refine lv_iconst (v := 0) hx hb dX5_begins_22 (by decide) ?_
  refine lv_istore_n (lv' := [(1, .int (0)), (0, .ref (ad 102))]) hx hb dX5_begins_23 rfl hl (by decide) rfl (fun ls hl => ?_)
  refine lp_X5_begins_B hi hNW hx hb hml hown hts hK I (bm1 J 324) X  (fun  H locs hP hS ls hl => ?_) (36) (0) (by omega)  H locs (w_cong (I1 := I) (J1 := (bm2 (bm1 J 324) 0)) (X1 := X) hP ⟨rfl, (by subst_vars; rfl), rfl⟩) hS ls (lv_cong (l := [(1, .int (0)), (0, .ref (ad 102))]) (l' := [(1, .int (nI (0))), (0, .ref (ad 102))]) (lv_sub hl [0, 1] rfl) (by subst_vars; rfl))
  refine lv_aload_n hx hb dX5_begins_67 rfl (lv_at hl 0 rfl) ?_
  refine w_callv (va_runV (As := []) (rest := []) ⟨hx, hb, hml, hown, hts⟩ (c_X5_settles l nW D cA ad hi hNW I (bm2 (bm1 J 324) 36) X H.size lo Is Js hM h0 j0) (cwV 0 hts gX5_begins_X5_settles rfl rfl rfl (by decide +kernel) ⟨Nat.le_of_ble_eq_true rfl, Nat.le_of_ble_eq_true rfl⟩) (w_preV hK hP 102 (by omega) ⟨rfl, rfl⟩ rfl) rfl rfl hl.1 rfl (lv_room (Nat.le_of_ble_eq_true rfl)) dX5_begins_68 ⟨Nat.le_of_ble_eq_true rfl, Nat.le_of_ble_eq_true rfl⟩) hS (fun H locs hP hS => ?_)
  exact w_vret hx hb hr hlocks hK hP hS ⟨by subst_vars; rfl, by subst_vars; rfl, by subst_vars; rfl⟩ dX5_begins_71

theorem inX5_mends_X5 : ∀ w ∈ wsX50, w ∈ wsX5_mends := by decide +kernel
set_option maxHeartbeats 4000000 in
set_option maxRecDepth 100000 in
theorem lp_X5_mends_C {p : Program} {l : Launch} {e : Env} {s : State} {m : MethodId} {args : Array Value} {below : List Frame} {meth : Method} {c : Code} {Q : State → Prop} {nW : Nat} {D : va_G} {cA : Nat → ClassId} {ad : Nat → Nat} (hi : inj nW ad) (hNW : 114 ≤ nW) (hx : p.tables.exec = Jvm.exec) (hb : c.code = cX5_mends) (hml : c.maxLocals = 8) (hown : s.vm.findClass RX5 = some m.cls) (hts : ∀ w ∈ wsX5_mends, w.before args s = true) (hK : WK D cA s) (I : SI) (J : SJ) (X : SX) (v n : Nat) (hv4 : v < 4) (hn9 : n < 9) (kx :  ∀ (H : Heap) (locs : List Loc), WP nW D cA ad I ((tkM J v n 9).2) X H → va_S (fr nW ad s.heap.size) s.heap H locs → ∀ (ls : Array Slot), lv_has ls 8 [(3, .long ((tkM J v n 9).1)), (1, .int (nI (v))), (2, .int (nI (n))), (0, .ref (ad 102))] → W p l e (headSpec wsX5_mends ({ frames := 6, cells := 0, slots := 0, locals := 150 })).room s m args below meth c H locs 0 0 Q (F0 m 92 ls [])) : ∀ (t o : Nat), o + t = 9 →  ∀ (H : Heap) (locs : List Loc), WP nW D cA ad I ((tkM J v n (o)).2) X H → va_S (fr nW ad s.heap.size) s.heap H locs → ∀ (ls : Array Slot), lv_has ls 8 [(5, .int (nI (o))), (3, .long ((tkM J v n (o)).1)), (1, .int (nI (v))), (2, .int (nI (n))), (0, .ref (ad 102))] → W p l e (headSpec wsX5_mends ({ frames := 6, cells := 0, slots := 0, locals := 150 })).room s m args below meth c H locs 0 0 Q (F0 m 20 ls []) := by
  have hA : ∀ k, k < nW → fr nW ad s.heap.size (ad k) := fr_ad
  intro t
  induction t with
  | zero =>
    intro o hj  H locs hP hS ls hl
    obtain rfl : 9 = o := by omega
    refine lv_iload hx hb dX5_mends_20 (lv_at hl 0 rfl) ?_
    refine lv_bipush (v := 9) hx hb dX5_mends_22 (by decide) ?_
    refine lv_icmp_ge (tgt := 92) hx hb dX5_mends_24 (by decide) (fun cc => ?_) (fun cc => ?_)
    · have qcc : 9 ≤ 9 := (wn_le (a := 9) (b := 9) rfl rfl (by omega) (by omega)).mp cc
      exact kx  H locs (w_cong (I1 := I) (J1 := ((tkM J v n 9).2)) (X1 := X) hP ⟨rfl, (by subst_vars; rfl), rfl⟩) hS ls (lv_cong (l := [(3, .long ((tkM J v n (9)).1)), (1, .int (nI (v))), (2, .int (nI (n))), (0, .ref (ad 102))]) (l' := [(3, .long ((tkM J v n 9).1)), (1, .int (nI (v))), (2, .int (nI (n))), (0, .ref (ad 102))]) (lv_sub hl [1, 2, 3, 4] rfl) (by subst_vars; rfl))
    · have qcc : ¬ 9 ≤ 9 := fun z => cc ((wn_le (a := 9) (b := 9) rfl rfl (by omega) (by omega)).mpr z)
      exact absurd qcc (by omega)
  | succ t ih =>
    intro o hj  H locs hP hS ls hl
    refine lv_iload hx hb dX5_mends_20 (lv_at hl 0 rfl) ?_
    refine lv_bipush (v := 9) hx hb dX5_mends_22 (by decide) ?_
    refine lv_icmp_ge (tgt := 92) hx hb dX5_mends_24 (by decide) (fun cc => ?_) (fun cc => ?_)
    · have qcc : 9 ≤ o := (wn_le (a := 9) (b := o) rfl rfl (by omega) (by omega)).mp cc
      exact absurd qcc (by omega)
    · have qcc : ¬ 9 ≤ o := fun z => cc ((wn_le (a := 9) (b := o) rfl rfl (by omega) (by omega)).mpr z)
      refine lv_aload_n hx hb dX5_mends_27 rfl (lv_at hl 4 rfl) ?_
      refine w_get (C := RX5) (T := TX5) (N := 15) (v := .ref (ad 107)) (index := 30) hx hb hts inX5_mends_X5 hown hK hP 102 7 ⟨rfl, rfl, by decide⟩ (by omega) rfl (List.mem_of_getElem? (i := 1) rfl) (fun _ h9 => h9) dX5_mends_28 ?_
      refine lv_bipush (v := 81) hx hb dX5_mends_31 (by decide) ?_
      refine lv_iload_n hx hb dX5_mends_33 rfl (lv_at hl 2 rfl) ?_
      refine w_imulN (a := 81) (b := v) hx hb rfl rfl dX5_mends_34 ?_
      refine lv_bipush (v := 9) hx hb dX5_mends_35 (by decide) ?_
      refine lv_iload_n hx hb dX5_mends_37 rfl (lv_at hl 3 rfl) ?_
      refine w_imulN (a := 9) (b := n) hx hb rfl rfl dX5_mends_38 ?_
      refine w_iaddN (a := (81 * v)) (b := (9 * n)) hx hb rfl rfl dX5_mends_39 ?_
      refine lv_iload hx hb dX5_mends_40 (lv_at hl 0 rfl) ?_
      refine w_iaddN (a := ((81 * v) + (9 * n))) (b := o) hx hb rfl rfl dX5_mends_42 ?_
      refine w_lald hx hb hK hP 107 (((81 * v) + (9 * n)) + o) ⟨rfl, (by show ((81 * v) + (9 * n)) + o < 324; omega)⟩ (by omega) rfl dX5_mends_43 ?_
      refine lv_topl (fun its eits => ?_)
      refine lv_lstore (lv' := [(6, .long (its)), (5, .int (nI (o))), (3, .long ((tkM J v n (o)).1)), (1, .int (nI (v))), (2, .int (nI (n))), (0, .ref (ad 102))]) hx hb dX5_mends_44 hl (by decide) rfl (fun ls hl => ?_)
      refine lv_lload_n hx hb dX5_mends_46 rfl (lv_at hl 2 rfl) ?_
      refine lv_lload hx hb dX5_mends_47 (lv_at hl 0 rfl) ?_
      refine lv_ladd hx hb dX5_mends_49 ?_
      refine lv_topl (fun al eal => ?_)
      refine lv_lstore_n (lv' := [(3, .long (al)), (6, .long (its)), (5, .int (nI (o))), (1, .int (nI (v))), (2, .int (nI (n))), (0, .ref (ad 102))]) hx hb dX5_mends_50 rfl hl (by decide) rfl (fun ls hl => ?_)
      refine lv_aload_n hx hb dX5_mends_51 rfl (lv_at hl 5 rfl) ?_
      refine w_get (C := RX5) (T := TX5) (N := 15) (v := .ref (ad 105)) (index := 23) hx hb hts inX5_mends_X5 hown hK hP 102 5 ⟨rfl, rfl, by decide⟩ (by omega) rfl (List.mem_of_getElem? (i := 2) rfl) (fun _ h9 => h9) dX5_mends_52 ?_
      refine lv_bipush (v := 9) hx hb dX5_mends_55 (by decide) ?_
      refine lv_iload_n hx hb dX5_mends_57 rfl (lv_at hl 3 rfl) ?_
      refine w_imulN (a := 9) (b := v) hx hb rfl rfl dX5_mends_58 ?_
      refine lv_iload hx hb dX5_mends_59 (lv_at hl 2 rfl) ?_
      refine w_iaddN (a := (9 * v)) (b := o) hx hb rfl rfl dX5_mends_61 ?_
      refine lv_dup2_11 hx hb dX5_mends_62 rfl rfl ?_
      refine w_lald hx hb hK hP 105 ((9 * v) + o) ⟨rfl, (by show (9 * v) + o < 36; omega)⟩ (by omega) rfl dX5_mends_63 ?_
      refine lv_lload hx hb dX5_mends_64 (lv_at hl 1 rfl) ?_
      refine lv_lsub hx hb dX5_mends_66 ?_
      refine w_last (v := (((tkM J v n (o)).2) 105 ((9 * v) + o)) - its) hx hb hK hP hi hA hS 105 ((9 * v) + o) ⟨rfl, (by show (9 * v) + o < 36; omega)⟩ (by omega) rfl dX5_mends_67 (fun H locs hP hS => ?_)
      obtain ⟨J_1, eJ_1⟩ : ∃ y, y = st2 ((tkM J v n (o)).2) 105 ((9 * v) + o) ((((tkM J v n (o)).2) 105 ((9 * v) + o)) - its) := ⟨_, rfl⟩
      have hP : WP nW D cA ad I J_1 X H := by rw [eJ_1]; exact hP
      refine lv_aload_n hx hb dX5_mends_68 rfl (lv_at hl 5 rfl) ?_
      refine w_get (C := RX5) (T := TX5) (N := 15) (v := .ref (ad 107)) (index := 30) hx hb hts inX5_mends_X5 hown hK hP 102 7 ⟨rfl, rfl, by decide⟩ (by omega) rfl (List.mem_of_getElem? (i := 1) rfl) (fun _ h9 => h9) dX5_mends_69 ?_
      refine lv_bipush (v := 81) hx hb dX5_mends_72 (by decide) ?_
      refine lv_iload_n hx hb dX5_mends_74 rfl (lv_at hl 3 rfl) ?_
      refine w_imulN (a := 81) (b := v) hx hb rfl rfl dX5_mends_75 ?_
      refine lv_bipush (v := 9) hx hb dX5_mends_76 (by decide) ?_
      refine lv_iload_n hx hb dX5_mends_78 rfl (lv_at hl 4 rfl) ?_
      refine w_imulN (a := 9) (b := n) hx hb rfl rfl dX5_mends_79 ?_
      refine w_iaddN (a := (81 * v)) (b := (9 * n)) hx hb rfl rfl dX5_mends_80 ?_
      refine lv_iload hx hb dX5_mends_81 (lv_at hl 2 rfl) ?_
      refine w_iaddN (a := ((81 * v) + (9 * n))) (b := o) hx hb rfl rfl dX5_mends_83 ?_
      refine lv_lconst (v := 0) hx hb dX5_mends_84 rfl ?_
      refine w_last (v := 0) hx hb hK hP hi hA hS 107 (((81 * v) + (9 * n)) + o) ⟨rfl, (by show ((81 * v) + (9 * n)) + o < 324; omega)⟩ (by omega) rfl dX5_mends_85 (fun H locs hP hS => ?_)
      obtain ⟨J_2, eJ_2⟩ : ∃ y, y = st2 J_1 107 (((81 * v) + (9 * n)) + o) (0) := ⟨_, rfl⟩
      have hP : WP nW D cA ad I J_2 X H := by rw [eJ_2]; exact hP
      refine lv_iinc (v := nI (o + 1)) (lv' := [(5, .int (nI (o + 1))), (3, .long (al)), (6, .long (its)), (1, .int (nI (v))), (2, .int (nI (n))), (0, .ref (ad 102))]) hx hb dX5_mends_86 hl (k := 2) rfl (wn_inc rfl) (by decide) rfl (fun ls hl => ?_)
      refine lv_goto (tgt := 20) hx hb dX5_mends_89 (by decide) ?_
      exact ih (o + 1) (by omega)  H locs (w_cong (I1 := I) (J1 := ((tkM J v n ((o + 1))).2)) (X1 := X) hP ⟨rfl, (by subst_vars; rfl), rfl⟩) hS ls (lv_cong (l := [(5, .int (nI (o + 1))), (3, .long (al)), (1, .int (nI (v))), (2, .int (nI (n))), (0, .ref (ad 102))]) (l' := [(5, .int (nI ((o + 1)))), (3, .long ((tkM J v n ((o + 1))).1)), (1, .int (nI (v))), (2, .int (nI (n))), (0, .ref (ad 102))]) (lv_sub hl [0, 1, 3, 4, 5] rfl) (by subst_vars; rfl))

set_option maxHeartbeats 4000000 in
set_option maxRecDepth 100000 in
theorem lp_X5_mends_B {p : Program} {l : Launch} {e : Env} {s : State} {m : MethodId} {args : Array Value} {below : List Frame} {meth : Method} {c : Code} {Q : State → Prop} {nW : Nat} {D : va_G} {cA : Nat → ClassId} {ad : Nat → Nat} (hi : inj nW ad) (hNW : 114 ≤ nW) (hx : p.tables.exec = Jvm.exec) (hb : c.code = cX5_mends) (hml : c.maxLocals = 8) (hown : s.vm.findClass RX5 = some m.cls) (hts : ∀ w ∈ wsX5_mends, w.before args s = true) (hK : WK D cA s) (I : SI) (J : SJ) (X : SX) (v : Nat) (hv4 : v < 4) (lo : Nat → Nat → Nat) (hlo : RefOK I lo) (kx :  ∀ (H : Heap) (locs : List Loc), WP nW D cA ad I (mdM I lo J v 9) X H → va_S (fr nW ad s.heap.size) s.heap H locs → ∀ (ls : Array Slot), lv_has ls 8 [(1, .int (nI (v))), (0, .ref (ad 102))] → W p l e (headSpec wsX5_mends ({ frames := 6, cells := 0, slots := 0, locals := 150 })).room s m args below meth c H locs 0 0 Q (F0 m 105 ls [])) : ∀ (t n : Nat), n + t = 9 →  ∀ (H : Heap) (locs : List Loc), WP nW D cA ad I (mdM I lo J v (n)) X H → va_S (fr nW ad s.heap.size) s.heap H locs → ∀ (ls : Array Slot), lv_has ls 8 [(2, .int (nI (n))), (1, .int (nI (v))), (0, .ref (ad 102))] → W p l e (headSpec wsX5_mends ({ frames := 6, cells := 0, slots := 0, locals := 150 })).room s m args below meth c H locs 0 0 Q (F0 m 9 ls []) := by
  have hA : ∀ k, k < nW → fr nW ad s.heap.size (ad k) := fr_ad
  intro t
  induction t with
  | zero =>
    intro n hj  H locs hP hS ls hl
    obtain rfl : 9 = n := by omega
    refine lv_iload_n hx hb dX5_mends_9 rfl (lv_at hl 0 rfl) ?_
    refine lv_bipush (v := 9) hx hb dX5_mends_10 (by decide) ?_
    refine lv_icmp_ge (tgt := 105) hx hb dX5_mends_12 (by decide) (fun cc => ?_) (fun cc => ?_)
    · have qcc : 9 ≤ 9 := (wn_le (a := 9) (b := 9) rfl rfl (by omega) (by omega)).mp cc
      exact kx  H locs (w_cong (I1 := I) (J1 := (mdM I lo J v 9)) (X1 := X) hP ⟨rfl, (by subst_vars; rfl), rfl⟩) hS ls (lv_sub hl [1, 2] rfl)
    · have qcc : ¬ 9 ≤ 9 := fun z => cc ((wn_le (a := 9) (b := 9) rfl rfl (by omega) (by omega)).mpr z)
      exact absurd qcc (by omega)
  | succ t ih =>
    intro n hj  H locs hP hS ls hl
    refine lv_iload_n hx hb dX5_mends_9 rfl (lv_at hl 0 rfl) ?_
    refine lv_bipush (v := 9) hx hb dX5_mends_10 (by decide) ?_
    refine lv_icmp_ge (tgt := 105) hx hb dX5_mends_12 (by decide) (fun cc => ?_) (fun cc => ?_)
    · have qcc : 9 ≤ n := (wn_le (a := 9) (b := n) rfl rfl (by omega) (by omega)).mp cc
      exact absurd qcc (by omega)
    · have qcc : ¬ 9 ≤ n := fun z => cc ((wn_le (a := 9) (b := n) rfl rfl (by omega) (by omega)).mpr z)
      refine lv_lconst (v := 0) hx hb dX5_mends_15 rfl ?_
      refine lv_lstore_n (lv' := [(3, .long (0)), (2, .int (nI (n))), (1, .int (nI (v))), (0, .ref (ad 102))]) hx hb dX5_mends_16 rfl hl (by decide) rfl (fun ls hl => ?_)
      refine lv_iconst (v := 0) hx hb dX5_mends_17 (by decide) ?_
      refine lv_istore (lv' := [(5, .int (0)), (3, .long (0)), (2, .int (nI (n))), (1, .int (nI (v))), (0, .ref (ad 102))]) hx hb dX5_mends_18 hl (by decide) rfl (fun ls hl => ?_)
      refine lp_X5_mends_C hi hNW hx hb hml hown hts hK I (mdM I lo J v (n)) X v n (by omega) (by omega) (fun  H locs hP hS ls hl => ?_) (9) (0) (by omega)  H locs (w_cong (I1 := I) (J1 := ((tkM (mdM I lo J v (n)) v n 0).2)) (X1 := X) hP ⟨rfl, (by subst_vars; rfl), rfl⟩) hS ls (lv_cong (l := [(5, .int (0)), (3, .long (0)), (1, .int (nI (v))), (2, .int (nI (n))), (0, .ref (ad 102))]) (l' := [(5, .int (nI (0))), (3, .long ((tkM (mdM I lo J v n) v n 0).1)), (1, .int (nI (v))), (2, .int (nI (n))), (0, .ref (ad 102))]) (lv_sub hl [0, 1, 3, 2, 4] rfl) (by subst_vars; rfl))
      refine lv_aload_n hx hb dX5_mends_92 rfl (lv_at hl 3 rfl) ?_
      refine lv_iload_n hx hb dX5_mends_93 rfl (lv_at hl 1 rfl) ?_
      refine lv_iload_n hx hb dX5_mends_94 rfl (lv_at hl 2 rfl) ?_
      refine lv_lload_n hx hb dX5_mends_95 rfl (lv_at hl 0 rfl) ?_
      refine w_callv (va_runV (As := [.int (nI (v)), .int (nI (n)), .long ((tkM (mdM I lo J v n) v n 9).1)]) (rest := []) ⟨hx, hb, hml, hown, hts⟩ (c_X5_sends l nW D cA ad hi hNW I ((tkM (mdM I lo J v (n)) v n 9).2) X H.size v n ((tkM (mdM I lo J v n) v n 9).1) (by omega) (by omega) (lo v n) (hlo v n (by omega) (by omega))) (cwV 3 hts gX5_mends_X5_sends rfl rfl rfl (by decide +kernel) ⟨Nat.le_of_ble_eq_true rfl, Nat.le_of_ble_eq_true rfl⟩) (w_preV hK hP 102 (by omega) ⟨rfl, rfl⟩ rfl) rfl rfl hl.1 rfl (lv_room (Nat.le_of_ble_eq_true rfl)) dX5_mends_96 ⟨Nat.le_of_ble_eq_true rfl, Nat.le_of_ble_eq_true rfl⟩) hS (fun H locs hP hS => ?_)
      refine lv_iinc (v := nI (n + 1)) (lv' := [(2, .int (nI (n + 1))), (3, .long ((tkM (mdM I lo J v n) v n 9).1)), (1, .int (nI (v))), (0, .ref (ad 102))]) hx hb dX5_mends_99 hl (k := 2) rfl (wn_inc rfl) (by decide) rfl (fun ls hl => ?_)
      refine lv_goto (tgt := 9) hx hb dX5_mends_102 (by decide) ?_
      exact ih (n + 1) (by omega)  H locs (w_cong (I1 := I) (J1 := (mdM I lo J v ((n + 1)))) (X1 := X) hP ⟨rfl, (by subst_vars; rfl), rfl⟩) hS ls (lv_cong (l := [(2, .int (nI (n + 1))), (1, .int (nI (v))), (0, .ref (ad 102))]) (l' := [(2, .int (nI ((n + 1)))), (1, .int (nI (v))), (0, .ref (ad 102))]) (lv_sub hl [0, 2, 3] rfl) (by subst_vars; rfl))

set_option maxHeartbeats 4000000 in
set_option maxRecDepth 100000 in
theorem lp_X5_mends_A {p : Program} {l : Launch} {e : Env} {s : State} {m : MethodId} {args : Array Value} {below : List Frame} {meth : Method} {c : Code} {Q : State → Prop} {nW : Nat} {D : va_G} {cA : Nat → ClassId} {ad : Nat → Nat} (hi : inj nW ad) (hNW : 114 ≤ nW) (hx : p.tables.exec = Jvm.exec) (hb : c.code = cX5_mends) (hml : c.maxLocals = 8) (hown : s.vm.findClass RX5 = some m.cls) (hts : ∀ w ∈ wsX5_mends, w.before args s = true) (hK : WK D cA s) (I : SI) (J : SJ) (X : SX) (lo : Nat → Nat → Nat) (hlo : RefOK I lo) (kx :  ∀ (H : Heap) (locs : List Loc), WP nW D cA ad I (mdA I lo J 4) X H → va_S (fr nW ad s.heap.size) s.heap H locs → ∀ (ls : Array Slot), lv_has ls 8 [(0, .ref (ad 102))] → W p l e (headSpec wsX5_mends ({ frames := 6, cells := 0, slots := 0, locals := 150 })).room s m args below meth c H locs 0 0 Q (F0 m 111 ls [])) : ∀ (t v : Nat), v + t = 4 →  ∀ (H : Heap) (locs : List Loc), WP nW D cA ad I (mdA I lo J (v)) X H → va_S (fr nW ad s.heap.size) s.heap H locs → ∀ (ls : Array Slot), lv_has ls 8 [(1, .int (nI (v))), (0, .ref (ad 102))] → W p l e (headSpec wsX5_mends ({ frames := 6, cells := 0, slots := 0, locals := 150 })).room s m args below meth c H locs 0 0 Q (F0 m 2 ls []) := by
  have hA : ∀ k, k < nW → fr nW ad s.heap.size (ad k) := fr_ad
  intro t
  induction t with
  | zero =>
    intro v hj  H locs hP hS ls hl
    obtain rfl : 4 = v := by omega
    refine lv_iload_n hx hb dX5_mends_2 rfl (lv_at hl 0 rfl) ?_
    refine lv_iconst (v := 4) hx hb dX5_mends_3 (by decide) ?_
    refine lv_icmp_ge (tgt := 111) hx hb dX5_mends_4 (by decide) (fun cc => ?_) (fun cc => ?_)
    · have qcc : 4 ≤ 4 := (wn_le (a := 4) (b := 4) rfl rfl (by omega) (by omega)).mp cc
      exact kx  H locs (w_cong (I1 := I) (J1 := (mdA I lo J 4)) (X1 := X) hP ⟨rfl, (by subst_vars; rfl), rfl⟩) hS ls (lv_sub hl [1] rfl)
    · have qcc : ¬ 4 ≤ 4 := fun z => cc ((wn_le (a := 4) (b := 4) rfl rfl (by omega) (by omega)).mpr z)
      exact absurd qcc (by omega)
  | succ t ih =>
    intro v hj  H locs hP hS ls hl
    refine lv_iload_n hx hb dX5_mends_2 rfl (lv_at hl 0 rfl) ?_
    refine lv_iconst (v := 4) hx hb dX5_mends_3 (by decide) ?_
    refine lv_icmp_ge (tgt := 111) hx hb dX5_mends_4 (by decide) (fun cc => ?_) (fun cc => ?_)
    · have qcc : 4 ≤ v := (wn_le (a := 4) (b := v) rfl rfl (by omega) (by omega)).mp cc
      exact absurd qcc (by omega)
    · have qcc : ¬ 4 ≤ v := fun z => cc ((wn_le (a := 4) (b := v) rfl rfl (by omega) (by omega)).mpr z)
      refine lv_iconst (v := 0) hx hb dX5_mends_7 (by decide) ?_
      refine lv_istore_n (lv' := [(2, .int (0)), (1, .int (nI (v))), (0, .ref (ad 102))]) hx hb dX5_mends_8 rfl hl (by decide) rfl (fun ls hl => ?_)
      refine lp_X5_mends_B hi hNW hx hb hml hown hts hK I (mdA I lo J (v)) X v (by omega) lo hlo (fun  H locs hP hS ls hl => ?_) (9) (0) (by omega)  H locs (w_cong (I1 := I) (J1 := (mdM I lo (mdA I lo J (v)) v 0)) (X1 := X) hP ⟨rfl, (by subst_vars; rfl), rfl⟩) hS ls (lv_cong (l := [(2, .int (0)), (1, .int (nI (v))), (0, .ref (ad 102))]) (l' := [(2, .int (nI (0))), (1, .int (nI (v))), (0, .ref (ad 102))]) (lv_sub hl [0, 1, 2] rfl) (by subst_vars; rfl))
      refine lv_iinc (v := nI (v + 1)) (lv' := [(1, .int (nI (v + 1))), (0, .ref (ad 102))]) hx hb dX5_mends_105 hl (k := 0) rfl (wn_inc rfl) (by decide) rfl (fun ls hl => ?_)
      refine lv_goto (tgt := 2) hx hb dX5_mends_108 (by decide) ?_
      exact ih (v + 1) (by omega)  H locs (w_cong (I1 := I) (J1 := (mdA I lo J ((v + 1)))) (X1 := X) hP ⟨rfl, (by subst_vars; rfl), rfl⟩) hS ls (lv_cong (l := [(1, .int (nI (v + 1))), (0, .ref (ad 102))]) (l' := [(1, .int (nI ((v + 1)))), (0, .ref (ad 102))]) (lv_sub hl [0, 1] rfl) (by subst_vars; rfl))

set_option maxHeartbeats 4000000 in
set_option maxRecDepth 100000 in
/-- X5_mends -/
theorem c_X5_mends (l : Launch) (nW : Nat) (D : va_G) (cA : Nat → ClassId) (ad : Nat → Nat) (hi : inj nW ad) (hNW : 114 ≤ nW) (I : SI) (J : SJ) (X : SX) (sz : Nat) (lo : Nat → Nat → Nat) (Is : Nat → SI) (Js : Nat → SJ) (hM : SettOK lo Is Js) (h0 : I = Is 0) (j0 : mdA I lo J 4 = Js 0) : Met l yX5_mends wsX5_mends ({ frames := 6, cells := 0, slots := 0, locals := 150 }) (va_Pc [.ref (ad 102)] (wPre nW D cA ad I J X sz)) (qV nW D cA ad sz (Is 4) (Js 4) X) 0 0 (fr nW ad sz) := by
  refine Met.ofW (cc := cX5_mends) (maxL := 8) (ret := none) (by decide) rfl ?_
  intro p e s m args below meth c s₁ B hml hv
  obtain ⟨rfl, rfl, hP, hK⟩ := hv
  have hx := B.exec
  have hb := B.bytes
  have hr := B.returns
  have hts := atoms_spec (ws := wsX5_mends) B.pre
  have hown : s.vm.findClass RX5 = some m.cls := findClass_of_methodNamed B.named
  have hlocks := B.notSynchronized
  have hS : va_S (fr nW ad s.heap.size) s.heap s.heap [] := va_S.rf
  have hA : ∀ k, k < nW → fr nW ad s.heap.size (ad k) := fr_ad
  have hl := lv_entry ([.ref (ad 102)]) (n := 8) (Nat.le_of_ble_eq_true rfl)
  rw [lg_entry_eq]
  generalize (lg_sl ([.ref (ad 102)]) ++ List.replicate (8 - (lg_sl ([.ref (ad 102)])).length) Slot.unset).toArray = ls at hl ⊢
  have hl : lv_has ls 8 [(0, .ref (ad 102))] := hl
  have hS0 := hS
  have hlo : RefOK I lo := by rw [h0]; exact (hM 0 (by decide)).1
  suffices K : ∀ (H : Heap) (locs : List Loc), WP nW D cA ad I J X H → va_S (fr nW ad s.heap.size) s.heap H locs → W p l e (headSpec wsX5_mends ({ frames := 6, cells := 0, slots := 0, locals := 150 })).room s m ([.ref (ad 102)] : List Value).toArray below meth c H locs 0 0 (MQ below (qV nW D cA ad s.heap.size (Is 4) (Js 4) X) ([.ref (ad 102)] : List Value).toArray s 0 0 (fr nW ad s.heap.size)) (F0 m 0 ls []) from K _ _ hP hS
  clear hP hS hS0
  intro H locs hP hS
  refine lv_iconst (v := 0) hx hb dX5_mends_0 (by decide) ?_
  refine lv_istore_n (lv' := [(1, .int (0)), (0, .ref (ad 102))]) hx hb dX5_mends_1 rfl hl (by decide) rfl (fun ls hl => ?_)
  refine lp_X5_mends_A hi hNW hx hb hml hown hts hK I J X lo hlo (fun  H locs hP hS ls hl => ?_) (4) (0) (by omega)  H locs (w_cong (I1 := I) (J1 := (mdA I lo J 0)) (X1 := X) hP ⟨rfl, (by subst_vars; rfl), rfl⟩) hS ls (lv_cong (l := [(1, .int (0)), (0, .ref (ad 102))]) (l' := [(1, .int (nI (0))), (0, .ref (ad 102))]) (lv_sub hl [0, 1] rfl) (by subst_vars; rfl))
  refine lv_aload_n hx hb dX5_mends_111 rfl (lv_at hl 0 rfl) ?_
  refine w_callv (va_runV (As := []) (rest := []) ⟨hx, hb, hml, hown, hts⟩ (c_X5_settles l nW D cA ad hi hNW I (mdA I lo J 4) X H.size lo Is Js hM h0 j0) (cwV 0 hts gX5_mends_X5_settles rfl rfl rfl (by decide +kernel) ⟨Nat.le_of_ble_eq_true rfl, Nat.le_of_ble_eq_true rfl⟩) (w_preV hK hP 102 (by omega) ⟨rfl, rfl⟩ rfl) rfl rfl hl.1 rfl (lv_room (Nat.le_of_ble_eq_true rfl)) dX5_mends_112 ⟨Nat.le_of_ble_eq_true rfl, Nat.le_of_ble_eq_true rfl⟩) hS (fun H locs hP hS => ?_)
  exact w_vret hx hb hr hlocks hK hP hS ⟨by subst_vars; rfl, by subst_vars; rfl, by subst_vars; rfl⟩ dX5_mends_115
