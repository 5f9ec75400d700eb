/-! the reference: pure -/
def loR (I : SI) (r k : Nat) : Int32 := if 3 < r ∨ k < 4 ∨ I 104 (k - 4) = 2 then 0 else I 103 (5 * r + (k - 4))
def loM (I : SI) (n m : Nat) : Int32 := if n < m then loR I n m else loR I m n
def alM (I : SI) (n : Nat) : Nat → Int32
  | 0 => 0
  | m + 1 => alM I n m + loM I n m
def allM (I : SI) (n : Nat) : Int32 := alM I n 9
def fromM (I : SI) (v n m : Nat) : Int32 := if 0 < allM I n then loM I n m else if m = v then 1 else 0
def suM (I : SI) (n : Nat) : Int32 := if 0 < allM I n then allM I n else 1
theorem wn_sub4lt {m : Nat} (h : m < 9) : nI m - 4 < 0 ↔ m < 4 := by
  rw [Int32.lt_iff_toInt_lt, show (4 : Int32) = nI 4 from rfl, pk_sub_toInt (by omega) (by omega), show (0 : Int32).toInt = 0 from rfl]
  omega
theorem wn_sub4 {m : Nat} (h : 4 ≤ m) : nI m - 4 = nI (m - 4) := pk_sub (a := m) (b := 4) h

theorem inX5_loanOf_X5 : ∀ w ∈ wsX50, w ∈ wsX5_loanOf := by decide +kernel
set_option maxHeartbeats 4000000 in
set_option maxRecDepth 100000 in
/-- X5_loanOf -/
theorem c_X5_loanOf (l : Launch) (nW : Nat) (D : va_G) (cA : Nat → ClassId) (ad : Nat → Nat) (hi : inj nW ad) (hNW : 114 ≤ nW) (I : SI) (J : SJ) (X : SX) (sz : Nat) (n q : Nat) (hn9 : n < 9) (hq9 : q < 9) : Met l yX5_loanOf wsX5_loanOf ({ frames := 0, cells := 0, slots := 0, locals := 0 }) (va_Pc [.ref (ad 102), .int (nI (n)), .int (nI (q))] (wPre nW D cA ad I J X sz)) (qI nW D cA ad sz (loM I n q) I J X) 0 0 (fr nW ad sz) := by
  refine Met.ofW (cc := cX5_loanOf) (maxL := 5) (ret := (some .int)) (by decide) rfl ?_
  intro p e s m args below meth c s₁ B hml hv
  obtain ⟨rfl, rfl, hP, hK⟩ := hv
  have hx := B.exec
  have hb := B.bytes
  have hr := B.returns
  have hts := atoms_spec (ws := wsX5_loanOf) B.pre
  have hown : s.vm.findClass RX5 = some m.cls := findClass_of_methodNamed B.named
  have hlocks := B.notSynchronized
  have hS : va_S (fr nW ad s.heap.size) s.heap s.heap [] := va_S.rf
  have hA : ∀ k, k < nW → fr nW ad s.heap.size (ad k) := fr_ad
  have hl := lv_entry ([.ref (ad 102), .int (nI (n)), .int (nI (q))]) (n := 5) (Nat.le_of_ble_eq_true rfl)
  rw [lg_entry_eq]
  generalize (lg_sl ([.ref (ad 102), .int (nI (n)), .int (nI (q))]) ++ List.replicate (5 - (lg_sl ([.ref (ad 102), .int (nI (n)), .int (nI (q))])).length) Slot.unset).toArray = ls at hl ⊢
  have hl : lv_has ls 5 [(0, .ref (ad 102)), (1, .int (nI (n))), (2, .int (nI (q)))] := hl
  have hS0 := hS
  suffices K : ∀ (H : Heap) (locs : List Loc), WP nW D cA ad I J X H → va_S (fr nW ad s.heap.size) s.heap H locs → W p l e (headSpec wsX5_loanOf ({ frames := 0, cells := 0, slots := 0, locals := 0 })).room s m ([.ref (ad 102), .int (nI (n)), .int (nI (q))] : List Value).toArray below meth c H locs 0 0 (MQ below (qI nW D cA ad s.heap.size (loM I n q) I J X) ([.ref (ad 102), .int (nI (n)), .int (nI (q))] : List Value).toArray s 0 0 (fr nW ad s.heap.size)) (F0 m 0 ls []) from K _ _ hP hS
  clear hP hS hS0
  intro H locs hP hS
  refine lv_iload_n hx hb dX5_loanOf_0 rfl (lv_at hl 1 rfl) ?_
  refine lv_iload_n hx hb dX5_loanOf_1 rfl (lv_at hl 2 rfl) ?_
  refine lv_icmp_ge (tgt := 9) hx hb dX5_loanOf_2 (by decide) (fun c2 => ?_) (fun c2 => ?_)
  · have qc2 : q ≤ n := (wn_le (a := q) (b := n) rfl rfl (by omega) (by omega)).mp c2
    refine lv_iload_n hx hb dX5_loanOf_9 rfl (lv_at hl 2 rfl) ?_
    refine lv_istore_n (lv' := [(3, .int (nI (q))), (0, .ref (ad 102)), (1, .int (nI (n))), (2, .int (nI (q)))]) hx hb dX5_loanOf_10 rfl hl (by decide) rfl (fun ls hl => ?_)
    refine lv_iload_n hx hb dX5_loanOf_11 rfl (lv_at hl 2 rfl) ?_
    refine lv_iload_n hx hb dX5_loanOf_12 rfl (lv_at hl 3 rfl) ?_
    refine lv_icmp_ge (tgt := 20) hx hb dX5_loanOf_13 (by decide) (fun c13 => ?_) (fun c13 => ?_)
    · have qc13 : q ≤ n := (wn_le (a := q) (b := n) rfl rfl (by omega) (by omega)).mp c13
      refine lv_iload_n hx hb dX5_loanOf_20 rfl (lv_at hl 2 rfl) ?_
      refine lv_iconst (v := 4) hx hb dX5_loanOf_21 (by decide) ?_
      refine lv_isub hx hb dX5_loanOf_22 ?_
      refine lv_topi (fun bk ebk => ?_)
      refine lv_istore (lv' := [(4, .int (bk)), (3, .int (nI (q))), (0, .ref (ad 102)), (1, .int (nI (n))), (2, .int (nI (q)))]) hx hb dX5_loanOf_23 hl (by decide) rfl (fun ls hl => ?_)
      refine lv_iload_n hx hb dX5_loanOf_25 rfl (lv_at hl 1 rfl) ?_
      refine lv_iconst (v := 3) hx hb dX5_loanOf_26 (by decide) ?_
      refine lv_icmp_gt (tgt := 46) hx hb dX5_loanOf_27 (by decide) (fun c27 => ?_) (fun c27 => ?_)
      · have qc27 : 3 < q := (wn_lt (a := 3) (b := q) rfl rfl (by omega) (by omega)).mp c27
        have qz : 3 < q ∨ n < 4 ∨ I 104 (n - 4) = 2 := Or.inl qc27
        refine lv_iconst (v := 0) hx hb dX5_loanOf_46 (by decide) ?_
        refine lv_goto (tgt := 61) hx hb dX5_loanOf_47 (by decide) ?_
        exact w_iret hx hb hr hlocks hK hP hS ⟨by unfold loM; rw [if_neg (Nat.not_lt.mpr qc2)]; unfold loR; rw [if_pos qz], by subst_vars; rfl, by subst_vars; rfl, by subst_vars; rfl⟩ dX5_loanOf_61
      · have qc27 : ¬ 3 < q := fun z => c27 ((wn_lt (a := 3) (b := q) rfl rfl (by omega) (by omega)).mpr z)
        refine lv_iload hx hb dX5_loanOf_30 (lv_at hl 0 rfl) ?_
        refine lv_if_lt (tgt := 46) hx hb dX5_loanOf_32 (by decide) (fun c32 => ?_) (fun c32 => ?_)
        · have q32 : n < 4 := (wn_sub4lt (by omega)).mp (by rw [← ebk]; exact c32)
          have qz : 3 < q ∨ n < 4 ∨ I 104 (n - 4) = 2 := Or.inr (Or.inl q32)
          refine lv_iconst (v := 0) hx hb dX5_loanOf_46 (by decide) ?_
          refine lv_goto (tgt := 61) hx hb dX5_loanOf_47 (by decide) ?_
          exact w_iret hx hb hr hlocks hK hP hS ⟨by unfold loM; rw [if_neg (Nat.not_lt.mpr qc2)]; unfold loR; rw [if_pos qz], by subst_vars; rfl, by subst_vars; rfl, by subst_vars; rfl⟩ dX5_loanOf_61
        · have q32 : 4 ≤ n := Nat.not_lt.mp (fun z => c32 (by rw [ebk]; exact (wn_sub4lt (by omega)).mpr z))
          refine lv_aload_n hx hb dX5_loanOf_35 rfl (lv_at hl 2 rfl) ?_
          refine w_get (C := RX5) (T := TX5) (N := 15) (v := .ref (ad 104)) (index := 13) hx hb hts inX5_loanOf_X5 hown hK hP 102 1 ⟨rfl, rfl, by decide⟩ (by omega) rfl (List.mem_of_getElem? (i := 1) rfl) (fun _ h9 => h9) dX5_loanOf_36 ?_
          refine lv_iload hx hb dX5_loanOf_39 (lv_at hl 0 rfl) ?_
          refine w_iald hx hb hK hP 104 (n - 4) ⟨rfl, (by show n - 4 < 5; omega)⟩ (by omega) (ebk.trans (wn_sub4 q32)) dX5_loanOf_41 ?_
          refine lv_iconst (v := 2) hx hb dX5_loanOf_42 (by decide) ?_
          refine lv_icmp_ne (tgt := 50) hx hb dX5_loanOf_43 (by decide) (fun c43 => ?_) (fun c43 => ?_)
          · have qz : ¬ (3 < q ∨ n < 4 ∨ I 104 (n - 4) = 2) := fun z => z.elim (fun q => absurd q qc27) (fun z => z.elim (fun q => absurd q (by omega)) c43)
            refine lv_aload_n hx hb dX5_loanOf_50 rfl (lv_at hl 2 rfl) ?_
            refine w_get (C := RX5) (T := TX5) (N := 15) (v := .ref (ad 103)) (index := 7) hx hb hts inX5_loanOf_X5 hown hK hP 102 0 ⟨rfl, rfl, by decide⟩ (by omega) rfl (List.mem_of_getElem? (i := 2) rfl) (fun _ h9 => h9) dX5_loanOf_51 ?_
            refine lv_iconst (v := 5) hx hb dX5_loanOf_54 (by decide) ?_
            refine lv_iload_n hx hb dX5_loanOf_55 rfl (lv_at hl 1 rfl) ?_
            refine w_imulN (a := 5) (b := q) hx hb rfl rfl dX5_loanOf_56 ?_
            refine lv_iload hx hb dX5_loanOf_57 (lv_at hl 0 rfl) ?_
            refine w_iaddN (a := (5 * q)) (b := (n - 4)) hx hb rfl (ebk.trans (wn_sub4 q32)) dX5_loanOf_59 ?_
            refine w_iald hx hb hK hP 103 ((5 * q) + (n - 4)) ⟨rfl, (by show (5 * q) + (n - 4) < 20; omega)⟩ (by omega) rfl dX5_loanOf_60 ?_
            exact w_iret hx hb hr hlocks hK hP hS ⟨by unfold loM; rw [if_neg (Nat.not_lt.mpr qc2)]; unfold loR; rw [if_neg qz], by subst_vars; rfl, by subst_vars; rfl, by subst_vars; rfl⟩ dX5_loanOf_61
          · have qz : 3 < q ∨ n < 4 ∨ I 104 (n - 4) = 2 := Or.inr (Or.inr c43)
            refine lv_iconst (v := 0) hx hb dX5_loanOf_46 (by decide) ?_
            refine lv_goto (tgt := 61) hx hb dX5_loanOf_47 (by decide) ?_
            exact w_iret hx hb hr hlocks hK hP hS ⟨by unfold loM; rw [if_neg (Nat.not_lt.mpr qc2)]; unfold loR; rw [if_pos qz], by subst_vars; rfl, by subst_vars; rfl, by subst_vars; rfl⟩ dX5_loanOf_61
    · have qc13 : ¬ q ≤ n := fun z => c13 ((wn_le (a := q) (b := n) rfl rfl (by omega) (by omega)).mpr z)
      exact absurd qc2 (by omega)
  · have qc2 : ¬ q ≤ n := fun z => c2 ((wn_le (a := q) (b := n) rfl rfl (by omega) (by omega)).mpr z)
    refine lv_iload_n hx hb dX5_loanOf_5 rfl (lv_at hl 1 rfl) ?_
    refine lv_goto (tgt := 10) hx hb dX5_loanOf_6 (by decide) ?_
    refine lv_istore_n (lv' := [(3, .int (nI (n))), (0, .ref (ad 102)), (1, .int (nI (n))), (2, .int (nI (q)))]) hx hb dX5_loanOf_10 rfl hl (by decide) rfl (fun ls hl => ?_)
    refine lv_iload_n hx hb dX5_loanOf_11 rfl (lv_at hl 2 rfl) ?_
    refine lv_iload_n hx hb dX5_loanOf_12 rfl (lv_at hl 3 rfl) ?_
    refine lv_icmp_ge (tgt := 20) hx hb dX5_loanOf_13 (by decide) (fun c13 => ?_) (fun c13 => ?_)
    · have qc13 : q ≤ n := (wn_le (a := q) (b := n) rfl rfl (by omega) (by omega)).mp c13
      exact absurd qc2 (by omega)
    · have qc13 : ¬ q ≤ n := fun z => c13 ((wn_le (a := q) (b := n) rfl rfl (by omega) (by omega)).mpr z)
      refine lv_iload_n hx hb dX5_loanOf_16 rfl (lv_at hl 3 rfl) ?_
      refine lv_goto (tgt := 21) hx hb dX5_loanOf_17 (by decide) ?_
      refine lv_iconst (v := 4) hx hb dX5_loanOf_21 (by decide) ?_
      refine lv_isub hx hb dX5_loanOf_22 ?_
      refine lv_topi (fun bk ebk => ?_)
      refine lv_istore (lv' := [(4, .int (bk)), (3, .int (nI (n))), (0, .ref (ad 102)), (1, .int (nI (n))), (2, .int (nI (q)))]) hx hb dX5_loanOf_23 hl (by decide) rfl (fun ls hl => ?_)
      refine lv_iload_n hx hb dX5_loanOf_25 rfl (lv_at hl 1 rfl) ?_
      refine lv_iconst (v := 3) hx hb dX5_loanOf_26 (by decide) ?_
      refine lv_icmp_gt (tgt := 46) hx hb dX5_loanOf_27 (by decide) (fun c27 => ?_) (fun c27 => ?_)
      · have qc27 : 3 < n := (wn_lt (a := 3) (b := n) rfl rfl (by omega) (by omega)).mp c27
        have qz : 3 < n ∨ q < 4 ∨ I 104 (q - 4) = 2 := Or.inl qc27
        refine lv_iconst (v := 0) hx hb dX5_loanOf_46 (by decide) ?_
        refine lv_goto (tgt := 61) hx hb dX5_loanOf_47 (by decide) ?_
        exact w_iret hx hb hr hlocks hK hP hS ⟨by unfold loM; rw [if_pos (Nat.not_le.mp qc2)]; unfold loR; rw [if_pos qz], by subst_vars; rfl, by subst_vars; rfl, by subst_vars; rfl⟩ dX5_loanOf_61
      · have qc27 : ¬ 3 < n := fun z => c27 ((wn_lt (a := 3) (b := n) rfl rfl (by omega) (by omega)).mpr z)
        refine lv_iload hx hb dX5_loanOf_30 (lv_at hl 0 rfl) ?_
        refine lv_if_lt (tgt := 46) hx hb dX5_loanOf_32 (by decide) (fun c32 => ?_) (fun c32 => ?_)
        · have q32 : q < 4 := (wn_sub4lt (by omega)).mp (by rw [← ebk]; exact c32)
          have qz : 3 < n ∨ q < 4 ∨ I 104 (q - 4) = 2 := Or.inr (Or.inl q32)
          refine lv_iconst (v := 0) hx hb dX5_loanOf_46 (by decide) ?_
          refine lv_goto (tgt := 61) hx hb dX5_loanOf_47 (by decide) ?_
          exact w_iret hx hb hr hlocks hK hP hS ⟨by unfold loM; rw [if_pos (Nat.not_le.mp qc2)]; unfold loR; rw [if_pos qz], by subst_vars; rfl, by subst_vars; rfl, by subst_vars; rfl⟩ dX5_loanOf_61
        · have q32 : 4 ≤ q := Nat.not_lt.mp (fun z => c32 (by rw [ebk]; exact (wn_sub4lt (by omega)).mpr z))
          refine lv_aload_n hx hb dX5_loanOf_35 rfl (lv_at hl 2 rfl) ?_
          refine w_get (C := RX5) (T := TX5) (N := 15) (v := .ref (ad 104)) (index := 13) hx hb hts inX5_loanOf_X5 hown hK hP 102 1 ⟨rfl, rfl, by decide⟩ (by omega) rfl (List.mem_of_getElem? (i := 1) rfl) (fun _ h9 => h9) dX5_loanOf_36 ?_
          refine lv_iload hx hb dX5_loanOf_39 (lv_at hl 0 rfl) ?_
          refine w_iald hx hb hK hP 104 (q - 4) ⟨rfl, (by show q - 4 < 5; omega)⟩ (by omega) (ebk.trans (wn_sub4 q32)) dX5_loanOf_41 ?_
          refine lv_iconst (v := 2) hx hb dX5_loanOf_42 (by decide) ?_
          refine lv_icmp_ne (tgt := 50) hx hb dX5_loanOf_43 (by decide) (fun c43 => ?_) (fun c43 => ?_)
          · have qz : ¬ (3 < n ∨ q < 4 ∨ I 104 (q - 4) = 2) := fun z => z.elim (fun q => absurd q qc27) (fun z => z.elim (fun q => absurd q (by omega)) c43)
            refine lv_aload_n hx hb dX5_loanOf_50 rfl (lv_at hl 2 rfl) ?_
            refine w_get (C := RX5) (T := TX5) (N := 15) (v := .ref (ad 103)) (index := 7) hx hb hts inX5_loanOf_X5 hown hK hP 102 0 ⟨rfl, rfl, by decide⟩ (by omega) rfl (List.mem_of_getElem? (i := 2) rfl) (fun _ h9 => h9) dX5_loanOf_51 ?_
            refine lv_iconst (v := 5) hx hb dX5_loanOf_54 (by decide) ?_
            refine lv_iload_n hx hb dX5_loanOf_55 rfl (lv_at hl 1 rfl) ?_
            refine w_imulN (a := 5) (b := n) hx hb rfl rfl dX5_loanOf_56 ?_
            refine lv_iload hx hb dX5_loanOf_57 (lv_at hl 0 rfl) ?_
            refine w_iaddN (a := (5 * n)) (b := (q - 4)) hx hb rfl (ebk.trans (wn_sub4 q32)) dX5_loanOf_59 ?_
            refine w_iald hx hb hK hP 103 ((5 * n) + (q - 4)) ⟨rfl, (by show (5 * n) + (q - 4) < 20; omega)⟩ (by omega) rfl dX5_loanOf_60 ?_
            exact w_iret hx hb hr hlocks hK hP hS ⟨by unfold loM; rw [if_pos (Nat.not_le.mp qc2)]; unfold loR; rw [if_neg qz], by subst_vars; rfl, by subst_vars; rfl, by subst_vars; rfl⟩ dX5_loanOf_61
          · have qz : 3 < n ∨ q < 4 ∨ I 104 (q - 4) = 2 := Or.inr (Or.inr c43)
            refine lv_iconst (v := 0) hx hb dX5_loanOf_46 (by decide) ?_
            refine lv_goto (tgt := 61) hx hb dX5_loanOf_47 (by decide) ?_
            exact w_iret hx hb hr hlocks hK hP hS ⟨by unfold loM; rw [if_pos (Nat.not_le.mp qc2)]; unfold loR; rw [if_pos qz], by subst_vars; rfl, by subst_vars; rfl, by subst_vars; rfl⟩ dX5_loanOf_61

theorem inX5_allOf_X5 : ∀ w ∈ wsX50, w ∈ wsX5_allOf := by decide +kernel
set_option maxHeartbeats 4000000 in
set_option maxRecDepth 100000 in
theorem lp_X5_allOf {p : Program} {l : Launch} {e : Env} {s : State} {m : MethodId} {args : Array Value} {below : List Frame} {meth : Method} {c : Code} {Q : State → Prop} {nW : Nat} {D : va_G} {cA : Nat → ClassId} {ad : Nat → Nat} (hi : inj nW ad) (hNW : 114 ≤ nW) (hx : p.tables.exec = Jvm.exec) (hb : c.code = cX5_allOf) (hml : c.maxLocals = 4) (hown : s.vm.findClass RX5 = some m.cls) (hts : ∀ w ∈ wsX5_allOf, w.before args s = true) (hK : WK D cA s) (I : SI) (J : SJ) (X : SX) (n : Nat) (hn9 : n < 9) (kx :  ∀ (H : Heap) (locs : List Loc), WP nW D cA ad I J X H → va_S (fr nW ad s.heap.size) s.heap H locs → ∀ (ls : Array Slot), lv_has ls 4 [(2, .int (alM I n 9)), (0, .ref (ad 102))] → W p l e (headSpec wsX5_allOf ({ frames := 1, cells := 0, slots := 0, locals := 24 })).room s m args below meth c H locs 0 0 Q (F0 m 25 ls [])) : ∀ (t q : Nat), q + t = 9 →  ∀ (H : Heap) (locs : List Loc), WP nW D cA ad I J X H → va_S (fr nW ad s.heap.size) s.heap H locs → ∀ (ls : Array Slot), lv_has ls 4 [(3, .int (nI (q))), (2, .int (alM I n (q))), (1, .int (nI (n))), (0, .ref (ad 102))] → W p l e (headSpec wsX5_allOf ({ frames := 1, cells := 0, slots := 0, locals := 24 })).room s m args below meth c H locs 0 0 Q (F0 m 4 ls []) := by
  have hA : ∀ k, k < nW → fr nW ad s.heap.size (ad k) := fr_ad
  intro t
  induction t with
  | zero =>
    intro q hj  H locs hP hS ls hl
    obtain rfl : 9 = q := by omega
    refine lv_iload_n hx hb dX5_allOf_4 rfl (lv_at hl 0 rfl) ?_
    refine lv_bipush (v := 9) hx hb dX5_allOf_5 (by decide) ?_
    refine lv_icmp_ge (tgt := 25) hx hb dX5_allOf_7 (by decide) (fun cc => ?_) (fun cc => ?_)
    · have qcc : 9 ≤ 9 := (wn_le (a := 9) (b := 9) rfl rfl (by omega) (by omega)).mp cc
      exact kx  H locs hP hS ls (lv_cong (l := [(2, .int (alM I n (9))), (0, .ref (ad 102))]) (l' := [(2, .int (alM I n 9)), (0, .ref (ad 102))]) (lv_sub hl [1, 3] rfl) (by subst_vars; rfl))
    · have qcc : ¬ 9 ≤ 9 := fun z => cc ((wn_le (a := 9) (b := 9) rfl rfl (by omega) (by omega)).mpr z)
      exact absurd qcc (by omega)
  | succ t ih =>
    intro q hj  H locs hP hS ls hl
    refine lv_iload_n hx hb dX5_allOf_4 rfl (lv_at hl 0 rfl) ?_
    refine lv_bipush (v := 9) hx hb dX5_allOf_5 (by decide) ?_
    refine lv_icmp_ge (tgt := 25) hx hb dX5_allOf_7 (by decide) (fun cc => ?_) (fun cc => ?_)
    · have qcc : 9 ≤ q := (wn_le (a := 9) (b := q) rfl rfl (by omega) (by omega)).mp cc
      exact absurd qcc (by omega)
    · have qcc : ¬ 9 ≤ q := fun z => cc ((wn_le (a := 9) (b := q) rfl rfl (by omega) (by omega)).mpr z)
      refine lv_iload_n hx hb dX5_allOf_10 rfl (lv_at hl 1 rfl) ?_
      refine lv_aload_n hx hb dX5_allOf_11 rfl (lv_at hl 3 rfl) ?_
      refine lv_iload_n hx hb dX5_allOf_12 rfl (lv_at hl 2 rfl) ?_
      refine lv_iload_n hx hb dX5_allOf_13 rfl (lv_at hl 0 rfl) ?_
      refine w_calli (va_runV (As := [.int (nI (n)), .int (nI (q))]) (rest := [.int (alM I n (q))]) ⟨hx, hb, hml, hown, hts⟩ (c_X5_loanOf l nW D cA ad hi hNW I J X H.size n q (by omega) (by omega)) (cwV 2 hts gX5_allOf_X5_loanOf rfl rfl rfl (by decide +kernel) ⟨Nat.le_of_ble_eq_true rfl, Nat.le_of_ble_eq_true rfl⟩) (w_preV hK hP 102 (by omega) ⟨rfl, rfl⟩ rfl) rfl rfl hl.1 rfl (lv_room (Nat.le_of_ble_eq_true rfl)) dX5_allOf_14 ⟨Nat.le_of_ble_eq_true rfl, Nat.le_of_ble_eq_true rfl⟩) hS (fun H locs hP hS => ?_)
      refine lv_iadd hx hb dX5_allOf_17 ?_
      refine lv_topi (fun x_1 ex_1 => ?_)
      refine lv_istore_n (lv' := [(2, .int (x_1)), (3, .int (nI (q))), (1, .int (nI (n))), (0, .ref (ad 102))]) hx hb dX5_allOf_18 rfl hl (by decide) rfl (fun ls hl => ?_)
      refine lv_iinc (v := nI (q + 1)) (lv' := [(3, .int (nI (q + 1))), (2, .int (x_1)), (1, .int (nI (n))), (0, .ref (ad 102))]) hx hb dX5_allOf_19 hl (k := 1) rfl (wn_inc rfl) (by decide) rfl (fun ls hl => ?_)
      refine lv_goto (tgt := 4) hx hb dX5_allOf_22 (by decide) ?_
      exact ih (q + 1) (by omega)  H locs hP hS ls (lv_cong (l := [(3, .int (nI (q + 1))), (2, .int (x_1)), (1, .int (nI (n))), (0, .ref (ad 102))]) (l' := [(3, .int (nI ((q + 1)))), (2, .int (alM I n ((q + 1)))), (1, .int (nI (n))), (0, .ref (ad 102))]) (lv_sub hl [0, 1, 2, 3] rfl) (by subst_vars; rfl))

set_option maxHeartbeats 4000000 in
set_option maxRecDepth 100000 in
/-- X5_allOf -/
theorem c_X5_allOf (l : Launch) (nW : Nat) (D : va_G) (cA : Nat → ClassId) (ad : Nat → Nat) (hi : inj nW ad) (hNW : 114 ≤ nW) (I : SI) (J : SJ) (X : SX) (sz : Nat) (n : Nat) (hn9 : n < 9) : Met l yX5_allOf wsX5_allOf ({ frames := 1, cells := 0, slots := 0, locals := 24 }) (va_Pc [.ref (ad 102), .int (nI (n))] (wPre nW D cA ad I J X sz)) (qI nW D cA ad sz (allM I n) I J X) 0 0 (fr nW ad sz) := by
  refine Met.ofW (cc := cX5_allOf) (maxL := 4) (ret := (some .int)) (by decide) rfl ?_
  intro p e s m args below meth c s₁ B hml hv
  obtain ⟨rfl, rfl, hP, hK⟩ := hv
  have hx := B.exec
  have hb := B.bytes
  have hr := B.returns
  have hts := atoms_spec (ws := wsX5_allOf) B.pre
  have hown : s.vm.findClass RX5 = some m.cls := findClass_of_methodNamed B.named
  have hlocks := B.notSynchronized
  have hS : va_S (fr nW ad s.heap.size) s.heap s.heap [] := va_S.rf
  have hA : ∀ k, k < nW → fr nW ad s.heap.size (ad k) := fr_ad
  have hl := lv_entry ([.ref (ad 102), .int (nI (n))]) (n := 4) (Nat.le_of_ble_eq_true rfl)
  rw [lg_entry_eq]
  generalize (lg_sl ([.ref (ad 102), .int (nI (n))]) ++ List.replicate (4 - (lg_sl ([.ref (ad 102), .int (nI (n))])).length) Slot.unset).toArray = ls at hl ⊢
  have hl : lv_has ls 4 [(0, .ref (ad 102)), (1, .int (nI (n)))] := hl
  have hS0 := hS
  suffices K : ∀ (H : Heap) (locs : List Loc), WP nW D cA ad I J X H → va_S (fr nW ad s.heap.size) s.heap H locs → W p l e (headSpec wsX5_allOf ({ frames := 1, cells := 0, slots := 0, locals := 24 })).room s m ([.ref (ad 102), .int (nI (n))] : List Value).toArray below meth c H locs 0 0 (MQ below (qI nW D cA ad s.heap.size (allM I n) I J X) ([.ref (ad 102), .int (nI (n))] : List Value).toArray s 0 0 (fr nW ad s.heap.size)) (F0 m 0 ls []) from K _ _ hP hS
  clear hP hS hS0
  intro H locs hP hS
  refine lv_iconst (v := 0) hx hb dX5_allOf_0 (by decide) ?_
  refine lv_istore_n (lv' := [(2, .int (0)), (0, .ref (ad 102)), (1, .int (nI (n)))]) hx hb dX5_allOf_1 rfl hl (by decide) rfl (fun ls hl => ?_)
  refine lv_iconst (v := 0) hx hb dX5_allOf_2 (by decide) ?_
  refine lv_istore_n (lv' := [(3, .int (0)), (2, .int (0)), (0, .ref (ad 102)), (1, .int (nI (n)))]) hx hb dX5_allOf_3 rfl hl (by decide) rfl (fun ls hl => ?_)
  refine lp_X5_allOf hi hNW hx hb hml hown hts hK I J X n hn9 (fun  H locs hP hS ls hl => ?_) (9) (0) (by omega)  H locs hP hS ls (lv_cong (l := [(3, .int (0)), (2, .int (0)), (1, .int (nI (n))), (0, .ref (ad 102))]) (l' := [(3, .int (nI (0))), (2, .int (alM I n 0)), (1, .int (nI (n))), (0, .ref (ad 102))]) (lv_sub hl [0, 1, 3, 2] rfl) (by subst_vars; rfl))
  refine lv_iload_n hx hb dX5_allOf_25 rfl (lv_at hl 0 rfl) ?_
  exact w_iret hx hb hr hlocks hK hP hS ⟨by subst_vars; rfl, by subst_vars; rfl, by subst_vars; rfl, by subst_vars; rfl⟩ dX5_allOf_26

theorem inX5_from_X5 : ∀ w ∈ wsX50, w ∈ wsX5_from := by decide +kernel
set_option maxHeartbeats 4000000 in
set_option maxRecDepth 100000 in
/-- X5_from -/
theorem c_X5_from (l : Launch) (nW : Nat) (D : va_G) (cA : Nat → ClassId) (ad : Nat → Nat) (hi : inj nW ad) (hNW : 114 ≤ nW) (I : SI) (J : SJ) (X : SX) (sz : Nat) (v n q : Nat) (hv4 : v < 4) (hn9 : n < 9) (hq9 : q < 9) : Met l yX5_from wsX5_from ({ frames := 2, cells := 0, slots := 0, locals := 47 }) (va_Pc [.ref (ad 102), .int (nI (v)), .int (nI (n)), .int (nI (q))] (wPre nW D cA ad I J X sz)) (qI nW D cA ad sz (fromM I v n q) I J X) 0 0 (fr nW ad sz) := by
  refine Met.ofW (cc := cX5_from) (maxL := 4) (ret := (some .int)) (by decide) rfl ?_
  intro p e s m args below meth c s₁ B hml hv
  obtain ⟨rfl, rfl, hP, hK⟩ := hv
  have hx := B.exec
  have hb := B.bytes
  have hr := B.returns
  have hts := atoms_spec (ws := wsX5_from) B.pre
  have hown : s.vm.findClass RX5 = some m.cls := findClass_of_methodNamed B.named
  have hlocks := B.notSynchronized
  have hS : va_S (fr nW ad s.heap.size) s.heap s.heap [] := va_S.rf
  have hA : ∀ k, k < nW → fr nW ad s.heap.size (ad k) := fr_ad
  have hl := lv_entry ([.ref (ad 102), .int (nI (v)), .int (nI (n)), .int (nI (q))]) (n := 4) (Nat.le_of_ble_eq_true rfl)
  rw [lg_entry_eq]
  generalize (lg_sl ([.ref (ad 102), .int (nI (v)), .int (nI (n)), .int (nI (q))]) ++ List.replicate (4 - (lg_sl ([.ref (ad 102), .int (nI (v)), .int (nI (n)), .int (nI (q))])).length) Slot.unset).toArray = ls at hl ⊢
  have hl : lv_has ls 4 [(0, .ref (ad 102)), (1, .int (nI (v))), (2, .int (nI (n))), (3, .int (nI (q)))] := hl
  have hS0 := hS
  suffices K : ∀ (H : Heap) (locs : List Loc), WP nW D cA ad I J X H → va_S (fr nW ad s.heap.size) s.heap H locs → W p l e (headSpec wsX5_from ({ frames := 2, cells := 0, slots := 0, locals := 47 })).room s m ([.ref (ad 102), .int (nI (v)), .int (nI (n)), .int (nI (q))] : List Value).toArray below meth c H locs 0 0 (MQ below (qI nW D cA ad s.heap.size (fromM I v n q) I J X) ([.ref (ad 102), .int (nI (v)), .int (nI (n)), .int (nI (q))] : List Value).toArray s 0 0 (fr nW ad s.heap.size)) (F0 m 0 ls []) from K _ _ hP hS
  clear hP hS hS0
  intro H locs hP hS
  refine lv_aload_n hx hb dX5_from_0 rfl (lv_at hl 0 rfl) ?_
  refine lv_iload_n hx hb dX5_from_1 rfl (lv_at hl 2 rfl) ?_
  refine w_calli (va_runV (As := [.int (nI (n))]) (rest := []) ⟨hx, hb, hml, hown, hts⟩ (c_X5_allOf l nW D cA ad hi hNW I J X H.size n (by omega)) (cwV 1 hts gX5_from_X5_allOf rfl rfl rfl (by decide +kernel) ⟨Nat.le_of_ble_eq_true rfl, Nat.le_of_ble_eq_true rfl⟩) (w_preV hK hP 102 (by omega) ⟨rfl, rfl⟩ rfl) rfl rfl hl.1 rfl (lv_room (Nat.le_of_ble_eq_true rfl)) dX5_from_2 ⟨Nat.le_of_ble_eq_true rfl, Nat.le_of_ble_eq_true rfl⟩) hS (fun H locs hP hS => ?_)
  refine lv_if_le (tgt := 17) hx hb dX5_from_5 (by decide) (fun c5 => ?_) (fun c5 => ?_)
  · have q5 := i32_nlt c5
    refine lv_iload_n hx hb dX5_from_17 rfl (lv_at hl 3 rfl) ?_
    refine lv_iload_n hx hb dX5_from_18 rfl (lv_at hl 1 rfl) ?_
    refine lv_icmp_ne (tgt := 26) hx hb dX5_from_19 (by decide) (fun c19 => ?_) (fun c19 => ?_)
    · have qc19 : ¬ q = v := fun z => c19 ((wn_eq (a := q) (b := v) rfl rfl (by omega) (by omega)).mpr z)
      refine lv_iconst (v := 0) hx hb dX5_from_26 (by decide) ?_
      exact w_iret hx hb hr hlocks hK hP hS ⟨by unfold fromM; rw [if_neg q5, if_neg qc19], by subst_vars; rfl, by subst_vars; rfl, by subst_vars; rfl⟩ dX5_from_27
    · have qc19 : q = v := (wn_eq (a := q) (b := v) rfl rfl (by omega) (by omega)).mp c19
      refine lv_iconst (v := 1) hx hb dX5_from_22 (by decide) ?_
      refine lv_goto (tgt := 27) hx hb dX5_from_23 (by decide) ?_
      exact w_iret hx hb hr hlocks hK hP hS ⟨by unfold fromM; rw [if_neg q5, if_pos qc19], by subst_vars; rfl, by subst_vars; rfl, by subst_vars; rfl⟩ dX5_from_27
  · have q5 := i32_lt c5
    refine lv_aload_n hx hb dX5_from_8 rfl (lv_at hl 0 rfl) ?_
    refine lv_iload_n hx hb dX5_from_9 rfl (lv_at hl 2 rfl) ?_
    refine lv_iload_n hx hb dX5_from_10 rfl (lv_at hl 3 rfl) ?_
    refine w_calli (va_runV (As := [.int (nI (n)), .int (nI (q))]) (rest := []) ⟨hx, hb, hml, hown, hts⟩ (c_X5_loanOf l nW D cA ad hi hNW I J X H.size n q (by omega) (by omega)) (cwV 2 hts gX5_from_X5_loanOf rfl rfl rfl (by decide +kernel) ⟨Nat.le_of_ble_eq_true rfl, Nat.le_of_ble_eq_true rfl⟩) (w_preV hK hP 102 (by omega) ⟨rfl, rfl⟩ rfl) rfl rfl hl.1 rfl (lv_room (Nat.le_of_ble_eq_true rfl)) dX5_from_11 ⟨Nat.le_of_ble_eq_true rfl, Nat.le_of_ble_eq_true rfl⟩) hS (fun H locs hP hS => ?_)
    refine lv_goto (tgt := 27) hx hb dX5_from_14 (by decide) ?_
    exact w_iret hx hb hr hlocks hK hP hS ⟨by unfold fromM; rw [if_pos q5], by subst_vars; rfl, by subst_vars; rfl, by subst_vars; rfl⟩ dX5_from_27

theorem inX5_sumOf_X5 : ∀ w ∈ wsX50, w ∈ wsX5_sumOf := by decide +kernel
set_option maxHeartbeats 4000000 in
set_option maxRecDepth 100000 in
/-- X5_sumOf -/
theorem c_X5_sumOf (l : Launch) (nW : Nat) (D : va_G) (cA : Nat → ClassId) (ad : Nat → Nat) (hi : inj nW ad) (hNW : 114 ≤ nW) (I : SI) (J : SJ) (X : SX) (sz : Nat) (n : Nat) (hn9 : n < 9) : Met l yX5_sumOf wsX5_sumOf ({ frames := 2, cells := 0, slots := 0, locals := 47 }) (va_Pc [.ref (ad 102), .int (nI (n))] (wPre nW D cA ad I J X sz)) (qI nW D cA ad sz (suM I n) I J X) 0 0 (fr nW ad sz) := by
  refine Met.ofW (cc := cX5_sumOf) (maxL := 2) (ret := (some .int)) (by decide) rfl ?_
  intro p e s m args below meth c s₁ B hml hv
  obtain ⟨rfl, rfl, hP, hK⟩ := hv
  have hx := B.exec
  have hb := B.bytes
  have hr := B.returns
  have hts := atoms_spec (ws := wsX5_sumOf) B.pre
  have hown : s.vm.findClass RX5 = some m.cls := findClass_of_methodNamed B.named
  have hlocks := B.notSynchronized
  have hS : va_S (fr nW ad s.heap.size) s.heap s.heap [] := va_S.rf
  have hA : ∀ k, k < nW → fr nW ad s.heap.size (ad k) := fr_ad
  have hl := lv_entry ([.ref (ad 102), .int (nI (n))]) (n := 2) (Nat.le_of_ble_eq_true rfl)
  rw [lg_entry_eq]
  generalize (lg_sl ([.ref (ad 102), .int (nI (n))]) ++ List.replicate (2 - (lg_sl ([.ref (ad 102), .int (nI (n))])).length) Slot.unset).toArray = ls at hl ⊢
  have hl : lv_has ls 2 [(0, .ref (ad 102)), (1, .int (nI (n)))] := hl
  have hS0 := hS
  suffices K : ∀ (H : Heap) (locs : List Loc), WP nW D cA ad I J X H → va_S (fr nW ad s.heap.size) s.heap H locs → W p l e (headSpec wsX5_sumOf ({ frames := 2, cells := 0, slots := 0, locals := 47 })).room s m ([.ref (ad 102), .int (nI (n))] : List Value).toArray below meth c H locs 0 0 (MQ below (qI nW D cA ad s.heap.size (suM I n) I J X) ([.ref (ad 102), .int (nI (n))] : List Value).toArray s 0 0 (fr nW ad s.heap.size)) (F0 m 0 ls []) from K _ _ hP hS
  clear hP hS hS0
  intro H locs hP hS
  refine lv_aload_n hx hb dX5_sumOf_0 rfl (lv_at hl 0 rfl) ?_
  refine lv_iload_n hx hb dX5_sumOf_1 rfl (lv_at hl 1 rfl) ?_
  refine w_calli (va_runV (As := [.int (nI (n))]) (rest := []) ⟨hx, hb, hml, hown, hts⟩ (c_X5_allOf l nW D cA ad hi hNW I J X H.size n (by omega)) (cwV 1 hts gX5_sumOf_X5_allOf rfl rfl rfl (by decide +kernel) ⟨Nat.le_of_ble_eq_true rfl, Nat.le_of_ble_eq_true rfl⟩) (w_preV hK hP 102 (by omega) ⟨rfl, rfl⟩ rfl) rfl rfl hl.1 rfl (lv_room (Nat.le_of_ble_eq_true rfl)) dX5_sumOf_2 ⟨Nat.le_of_ble_eq_true rfl, Nat.le_of_ble_eq_true rfl⟩) hS (fun H locs hP hS => ?_)
  refine lv_if_le (tgt := 16) hx hb dX5_sumOf_5 (by decide) (fun c5 => ?_) (fun c5 => ?_)
  · have q5 := i32_nlt c5
    refine lv_iconst (v := 1) hx hb dX5_sumOf_16 (by decide) ?_
    exact w_iret hx hb hr hlocks hK hP hS ⟨by unfold suM; rw [if_neg q5], by subst_vars; rfl, by subst_vars; rfl, by subst_vars; rfl⟩ dX5_sumOf_17
  · have q5 := i32_lt c5
    refine lv_aload_n hx hb dX5_sumOf_8 rfl (lv_at hl 0 rfl) ?_
    refine lv_iload_n hx hb dX5_sumOf_9 rfl (lv_at hl 1 rfl) ?_
    refine w_calli (va_runV (As := [.int (nI (n))]) (rest := []) ⟨hx, hb, hml, hown, hts⟩ (c_X5_allOf l nW D cA ad hi hNW I J X H.size n (by omega)) (cwV 1 hts gX5_sumOf_X5_allOf rfl rfl rfl (by decide +kernel) ⟨Nat.le_of_ble_eq_true rfl, Nat.le_of_ble_eq_true rfl⟩) (w_preV hK hP 102 (by omega) ⟨rfl, rfl⟩ rfl) rfl rfl hl.1 rfl (lv_room (Nat.le_of_ble_eq_true rfl)) dX5_sumOf_10 ⟨Nat.le_of_ble_eq_true rfl, Nat.le_of_ble_eq_true rfl⟩) hS (fun H locs hP hS => ?_)
    refine lv_goto (tgt := 17) hx hb dX5_sumOf_13 (by decide) ?_
    exact w_iret hx hb hr hlocks hK hP hS ⟨by unfold suM; rw [if_pos q5], by subst_vars; rfl, by subst_vars; rfl, by subst_vars; rfl⟩ dX5_sumOf_17

/-- what a counter that falls to -1 holds -/
def dn : Nat → Int32
  | 0 => -1
  | r + 1 => nI r
theorem dn_dec (r : Nat) : nI r + Int32.ofInt (-1) = dn r := by
  cases r with
  | zero => decide
  | succ r => exact pk_m1 r
theorem suM_ne (I : SI) (n : Nat) : ¬ suM I n = 0 := by
  intro z
  unfold suM at z
  by_cases h : 0 < allM I n
  · rw [if_pos h] at z
    rw [z] at h
    exact absurd h (by decide)
  · rw [if_neg h] at z
    exact absurd z (by decide)
/-- units, the lowest neighbour so far, the rows -/
def sdPt (I : SI) (v n : Nat) (u : Int64) (k : Nat) : Int64 := u * (fromM I v n k).toInt64 / (suM I n).toInt64
def sdJ (J : SJ) (v n k : Nat) (x : Int64) : SJ := st2 (st2 J 105 (9 * v + k) (J 105 (9 * v + k) + x)) 107 (81 * v + 9 * n + k) ((st2 J 105 (9 * v + k) (J 105 (9 * v + k) + x)) 107 (81 * v + 9 * n + k) + x)
def sdD (I : SI) (v n : Nat) (u : Int64) : Nat → Int64 → Int32 → SJ → Int64 × Int32 × SJ
  | 0, lf, lw, J => (lf, lw, J)
  | r + 1, lf, lw, J => if 0 < fromM I v n r then sdD I v n u r (lf - sdPt I v n u r) (nI r) (sdJ J v n r (sdPt I v n u r)) else sdD I v n u r lf lw J
/-- the lowest neighbour of a node -/
def LowOK (I : SI) (v n lo : Nat) : Prop := lo < 9 ∧ 0 < fromM I v n lo ∧ ∀ k, k < lo → ¬ 0 < fromM I v n k
theorem sdD_low {I : SI} {v n lo : Nat} {u : Int64} (h : LowOK I v n lo) : ∀ (r : Nat) (lf : Int64) (lw : Int32) (J : SJ), (lo < r ∨ lw = nI lo) → (sdD I v n u r lf lw J).2.1 = nI lo
  | 0, lf, lw, J, q => q.elim (fun z => absurd z (Nat.not_lt_zero _)) (fun z => z)
  | r + 1, lf, lw, J, q => by
    unfold sdD
    by_cases h1 : 0 < fromM I v n r
    · rw [if_pos h1]
      by_cases e : r = lo
      · exact sdD_low h r _ _ _ (Or.inr (by rw [e]))
      · by_cases e2 : lo < r
        · exact sdD_low h r _ _ _ (Or.inl e2)
        · exact absurd h1 (h.2.2 r (by omega))
    · rw [if_neg h1]
      refine sdD_low h r _ _ _ ?_
      rcases q with z | z
      · by_cases e : r = lo
        · subst e; exact absurd h.2.1 h1
        · exact Or.inl (by omega)
      · exact Or.inr z
def sendM (I : SI) (J : SJ) (v n : Nat) (u : Int64) (lo : Nat) : SJ := sdJ (sdD I v n u 9 u (-1) J).2.2 v n lo (sdD I v n u 9 u (-1) J).1

theorem inX5_sends_X5 : ∀ w ∈ wsX50, w ∈ wsX5_sends := by decide +kernel
set_option maxHeartbeats 4000000 in
set_option maxRecDepth 100000 in
theorem lp_X5_sends {p : Program} {l : Launch} {e : Env} {s : State} {m : MethodId} {args : Array Value} {below : List Frame} {meth : Method} {c : Code} {Q : State → Prop} {nW : Nat} {D : va_G} {cA : Nat → ClassId} {ad : Nat → Nat} (hi : inj nW ad) (hNW : 114 ≤ nW) (hx : p.tables.exec = Jvm.exec) (hb : c.code = cX5_sends) (hml : c.maxLocals = 13) (hown : s.vm.findClass RX5 = some m.cls) (hts : ∀ w ∈ wsX5_sends, w.before args s = true) (hK : WK D cA s) (I : SI) (X : SX) (v n : Nat) (u : Int64) (hv4 : v < 4) (hn9 : n < 9) (lfF : Int64) (lwF : Int32) (JF : SJ) (kx : ∀ (H : Heap) (locs : List Loc), WP nW D cA ad I JF X H → va_S (fr nW ad s.heap.size) s.heap H locs → ∀ (ls : Array Slot), lv_has ls 13 [(7, .int (lwF)), (5, .long (lfF)), (1, .int (nI (v))), (2, .int (nI (n))), (0, .ref (ad 102))] → W p l e (headSpec wsX5_sends ({ frames := 3, cells := 0, slots := 0, locals := 70 })).room s m args below meth c H locs 0 0 Q (F0 m 104 ls [])) : ∀ (r : Nat) (lf : Int64) (lw : Int32) (J : SJ), r ≤ 9 → sdD I v n u r lf lw J = (lfF, lwF, JF) → ∀ (H : Heap) (locs : List Loc), WP nW D cA ad I J X H → va_S (fr nW ad s.heap.size) s.heap H locs → ∀ (ls : Array Slot), lv_has ls 13 [(9, .int (dn r)), (7, .int (lw)), (5, .long (lf)), (8, .int (suM I n)), (1, .int (nI (v))), (2, .int (nI (n))), (3, .long (u)), (0, .ref (ad 102))] → W p l e (headSpec wsX5_sends ({ frames := 3, cells := 0, slots := 0, locals := 70 })).room s m args below meth c H locs 0 0 Q (F0 m 17 ls []) := by
  have hA : ∀ k, k < nW → fr nW ad s.heap.size (ad k) := fr_ad
  intro r
  induction r with
  | zero =>
    intro lf lw J hr9 hrun H locs hP hS ls hl
    unfold sdD at hrun
    obtain ⟨rfl, h2⟩ := Prod.mk.inj hrun
    obtain ⟨rfl, rfl⟩ := Prod.mk.inj h2
    refine lv_iload hx hb dX5_sends_17 (lv_at hl 0 rfl) ?_
    refine lv_if_lt (tgt := 104) hx hb dX5_sends_19 (by decide) (fun c19 => ?_) (fun c19 => ?_)
    · exact kx H locs hP hS ls (lv_sub hl [1, 2, 4, 5, 7] rfl)
    · exact absurd (by decide) c19
  | succ r ih =>
    intro lf lw J hr9 hrun H locs hP hS ls hl
    unfold sdD at hrun
    refine lv_iload hx hb dX5_sends_17 (lv_at hl 0 rfl) ?_
    refine lv_if_lt (tgt := 104) hx hb dX5_sends_19 (by decide) (fun c19 => ?_) (fun c19 => ?_)
    · exact absurd c19 (nI_pos (by omega))
    · refine lv_aload_n hx hb dX5_sends_22 rfl (lv_at hl 7 rfl) ?_
      refine lv_iload_n hx hb dX5_sends_23 rfl (lv_at hl 4 rfl) ?_
      refine lv_iload_n hx hb dX5_sends_24 rfl (lv_at hl 5 rfl) ?_
      refine lv_iload hx hb dX5_sends_25 (lv_at hl 0 rfl) ?_
      refine w_calli (va_runV (As := [.int (nI (v)), .int (nI (n)), .int (nI (r))]) (rest := []) ⟨hx, hb, hml, hown, hts⟩ (c_X5_from l nW D cA ad hi hNW I J X H.size v n r (by omega) (by omega) (by omega)) (cwV 3 hts gX5_sends_X5_from rfl rfl rfl (by decide +kernel) ⟨Nat.le_of_ble_eq_true rfl, Nat.le_of_ble_eq_true rfl⟩) (w_preV hK hP 102 (by omega) ⟨rfl, rfl⟩ rfl) rfl rfl hl.1 rfl (lv_room (Nat.le_of_ble_eq_true rfl)) dX5_sends_27 ⟨Nat.le_of_ble_eq_true rfl, Nat.le_of_ble_eq_true rfl⟩) hS (fun H locs hP hS => ?_)
      refine lv_istore (lv' := [(10, .int (fromM I v n r)), (9, .int (nI (r))), (7, .int (lw)), (5, .long (lf)), (8, .int (suM I n)), (1, .int (nI (v))), (2, .int (nI (n))), (3, .long (u)), (0, .ref (ad 102))]) hx hb dX5_sends_30 hl (by decide) rfl (fun ls hl => ?_)
      refine lv_iload hx hb dX5_sends_32 (lv_at hl 0 rfl) ?_
      refine lv_if_le (tgt := 98) hx hb dX5_sends_34 (by decide) (fun c34 => ?_) (fun c34 => ?_)
      · rw [if_neg (i32_nlt c34)] at hrun
        refine lv_iinc (v := dn r) (lv' := [(9, .int (dn r)), (10, .int (fromM I v n r)), (7, .int (lw)), (5, .long (lf)), (8, .int (suM I n)), (1, .int (nI (v))), (2, .int (nI (n))), (3, .long (u)), (0, .ref (ad 102))]) hx hb dX5_sends_98 hl (k := 1) rfl (dn_dec r) (by decide) rfl (fun ls hl => ?_)
        refine lv_goto (tgt := 17) hx hb dX5_sends_101 (by decide) ?_
        exact ih (lf) (lw) (J) (by omega) hrun H locs (w_cong (I1 := I) (J1 := (J)) (X1 := X) hP ⟨rfl, (by subst_vars; rfl), rfl⟩) hS ls (lv_sub hl [0, 2, 3, 4, 5, 6, 7, 8] rfl)
      · rw [if_pos (i32_lt c34)] at hrun
        refine lv_lload_n hx hb dX5_sends_37 rfl (lv_at hl 7 rfl) ?_
        refine lv_iload hx hb dX5_sends_38 (lv_at hl 0 rfl) ?_
        refine lv_i2l (v := (fromM I v n r).toInt64) hx hb dX5_sends_40 rfl ?_
        refine lv_lmul hx hb dX5_sends_41 ?_
        refine lv_iload hx hb dX5_sends_42 (lv_at hl 4 rfl) ?_
        refine lv_i2l (v := (suM I n).toInt64) hx hb dX5_sends_44 rfl ?_
        refine lv_ldiv hx hb dX5_sends_45 (ne64 (suM_ne I n)) ?_
        refine lv_topl (fun pt ept => ?_)
        refine lv_lstore (lv' := [(11, .long (pt)), (10, .int (fromM I v n r)), (9, .int (nI (r))), (7, .int (lw)), (5, .long (lf)), (8, .int (suM I n)), (1, .int (nI (v))), (2, .int (nI (n))), (3, .long (u)), (0, .ref (ad 102))]) hx hb dX5_sends_46 hl (by decide) rfl (fun ls hl => ?_)
        refine lv_iload hx hb dX5_sends_48 (lv_at hl 2 rfl) ?_
        refine lv_istore (lv' := [(7, .int (nI (r))), (11, .long (pt)), (10, .int (fromM I v n r)), (9, .int (nI (r))), (5, .long (lf)), (8, .int (suM I n)), (1, .int (nI (v))), (2, .int (nI (n))), (3, .long (u)), (0, .ref (ad 102))]) hx hb dX5_sends_50 hl (by decide) rfl (fun ls hl => ?_)
        refine lv_lload hx hb dX5_sends_52 (lv_at hl 4 rfl) ?_
        refine lv_lload hx hb dX5_sends_54 (lv_at hl 1 rfl) ?_
        refine lv_lsub hx hb dX5_sends_56 ?_
        refine lv_topl (fun lf1 elf1 => ?_)
        refine lv_lstore (lv' := [(5, .long (lf1)), (7, .int (nI (r))), (11, .long (pt)), (10, .int (fromM I v n r)), (9, .int (nI (r))), (8, .int (suM I n)), (1, .int (nI (v))), (2, .int (nI (n))), (3, .long (u)), (0, .ref (ad 102))]) hx hb dX5_sends_57 hl (by decide) rfl (fun ls hl => ?_)
        refine lv_aload_n hx hb dX5_sends_59 rfl (lv_at hl 9 rfl) ?_
        refine w_get (C := RX5) (T := TX5) (N := 15) (v := .ref (ad 105)) (index := 23) hx hb hts inX5_sends_X5 hown hK hP 102 5 ⟨rfl, rfl, by decide⟩ (by omega) rfl (List.mem_of_getElem? (i := 1) rfl) (fun _ h9 => h9) dX5_sends_60 ?_
        refine lv_bipush (v := 9) hx hb dX5_sends_63 (by decide) ?_
        refine lv_iload_n hx hb dX5_sends_65 rfl (lv_at hl 6 rfl) ?_
        refine w_imulN (a := 9) (b := v) hx hb rfl rfl dX5_sends_66 ?_
        refine lv_iload hx hb dX5_sends_67 (lv_at hl 4 rfl) ?_
        refine w_iaddN (a := (9 * v)) (b := r) hx hb rfl rfl dX5_sends_69 ?_
        refine lv_dup2_11 hx hb dX5_sends_70 rfl rfl ?_
        refine w_lald hx hb hK hP 105 ((9 * v) + r) ⟨rfl, (by show (9 * v) + r < 36; omega)⟩ (by omega) rfl dX5_sends_71 ?_
        refine lv_lload hx hb dX5_sends_72 (lv_at hl 2 rfl) ?_
        refine lv_ladd hx hb dX5_sends_74 ?_
        refine w_last (v := (J 105 ((9 * v) + r)) + pt) hx hb hK hP hi hA hS 105 ((9 * v) + r) ⟨rfl, (by show (9 * v) + r < 36; omega)⟩ (by omega) rfl dX5_sends_75 (fun H locs hP hS => ?_)
        obtain ⟨J_1, eJ_1⟩ : ∃ y, y = st2 J 105 ((9 * v) + r) ((J 105 ((9 * v) + r)) + pt) := ⟨_, rfl⟩
        have hP : WP nW D cA ad I J_1 X H := by rw [eJ_1]; exact hP
        refine lv_aload_n hx hb dX5_sends_76 rfl (lv_at hl 9 rfl) ?_
        refine w_get (C := RX5) (T := TX5) (N := 15) (v := .ref (ad 107)) (index := 30) hx hb hts inX5_sends_X5 hown hK hP 102 7 ⟨rfl, rfl, by decide⟩ (by omega) rfl (List.mem_of_getElem? (i := 2) rfl) (fun _ h9 => h9) dX5_sends_77 ?_
        refine lv_bipush (v := 81) hx hb dX5_sends_80 (by decide) ?_
        refine lv_iload_n hx hb dX5_sends_82 rfl (lv_at hl 6 rfl) ?_
        refine w_imulN (a := 81) (b := v) hx hb rfl rfl dX5_sends_83 ?_
        refine lv_bipush (v := 9) hx hb dX5_sends_84 (by decide) ?_
        refine lv_iload_n hx hb dX5_sends_86 rfl (lv_at hl 7 rfl) ?_
        refine w_imulN (a := 9) (b := n) hx hb rfl rfl dX5_sends_87 ?_
        refine w_iaddN (a := (81 * v)) (b := (9 * n)) hx hb rfl rfl dX5_sends_88 ?_
        refine lv_iload hx hb dX5_sends_89 (lv_at hl 4 rfl) ?_
        refine w_iaddN (a := ((81 * v) + (9 * n))) (b := r) hx hb rfl rfl dX5_sends_91 ?_
        refine lv_dup2_11 hx hb dX5_sends_92 rfl rfl ?_
        refine w_lald hx hb hK hP 107 (((81 * v) + (9 * n)) + r) ⟨rfl, (by show ((81 * v) + (9 * n)) + r < 324; omega)⟩ (by omega) rfl dX5_sends_93 ?_
        refine lv_lload hx hb dX5_sends_94 (lv_at hl 2 rfl) ?_
        refine lv_ladd hx hb dX5_sends_96 ?_
        refine w_last (v := (J_1 107 (((81 * v) + (9 * n)) + r)) + pt) hx hb hK hP hi hA hS 107 (((81 * v) + (9 * n)) + r) ⟨rfl, (by show ((81 * v) + (9 * n)) + r < 324; omega)⟩ (by omega) rfl dX5_sends_97 (fun H locs hP hS => ?_)
        obtain ⟨J_2, eJ_2⟩ : ∃ y, y = st2 J_1 107 (((81 * v) + (9 * n)) + r) ((J_1 107 (((81 * v) + (9 * n)) + r)) + pt) := ⟨_, rfl⟩
        have hP : WP nW D cA ad I J_2 X H := by rw [eJ_2]; exact hP
        refine lv_iinc (v := dn r) (lv' := [(9, .int (dn r)), (5, .long (lf1)), (7, .int (nI (r))), (11, .long (pt)), (10, .int (fromM I v n r)), (8, .int (suM I n)), (1, .int (nI (v))), (2, .int (nI (n))), (3, .long (u)), (0, .ref (ad 102))]) hx hb dX5_sends_98 hl (k := 4) rfl (dn_dec r) (by decide) rfl (fun ls hl => ?_)
        refine lv_goto (tgt := 17) hx hb dX5_sends_101 (by decide) ?_
        exact ih (lf - sdPt I v n u r) (nI r) (sdJ J v n r (sdPt I v n u r)) (by omega) hrun H locs (w_cong (I1 := I) (J1 := (sdJ J v n r (sdPt I v n u r))) (X1 := X) hP ⟨rfl, (by subst_vars; rfl), rfl⟩) hS ls (lv_cong (l := [(9, .int (dn r)), (7, .int (nI (r))), (5, .long (lf1)), (8, .int (suM I n)), (1, .int (nI (v))), (2, .int (nI (n))), (3, .long (u)), (0, .ref (ad 102))]) (l' := [(9, .int (dn r)), (7, .int (nI r)), (5, .long (lf - sdPt I v n u r)), (8, .int (suM I n)), (1, .int (nI (v))), (2, .int (nI (n))), (3, .long (u)), (0, .ref (ad 102))]) (lv_sub hl [0, 2, 1, 5, 6, 7, 8, 9] rfl) (by subst_vars; rfl))

set_option maxHeartbeats 4000000 in
set_option maxRecDepth 100000 in
/-- X5_sends -/
theorem c_X5_sends (l : Launch) (nW : Nat) (D : va_G) (cA : Nat → ClassId) (ad : Nat → Nat) (hi : inj nW ad) (hNW : 114 ≤ nW) (I : SI) (J : SJ) (X : SX) (sz : Nat) (v n : Nat) (u : Int64) (hv4 : v < 4) (hn9 : n < 9) (lo : Nat) (hlo : LowOK I v n lo) : Met l yX5_sends wsX5_sends ({ frames := 3, cells := 0, slots := 0, locals := 70 }) (va_Pc [.ref (ad 102), .int (nI (v)), .int (nI (n)), .long (u)] (wPre nW D cA ad I J X sz)) (qV nW D cA ad sz I (sendM I J v n u lo) X) 0 0 (fr nW ad sz) := by
  refine Met.ofW (cc := cX5_sends) (maxL := 13) (ret := none) (by decide) rfl ?_
  intro p e s m args below meth c s₁ B hml hv
  obtain ⟨rfl, rfl, hP, hK⟩ := hv
  have hx := B.exec
  have hb := B.bytes
  have hr := B.returns
  have hts := atoms_spec (ws := wsX5_sends) B.pre
  have hown : s.vm.findClass RX5 = some m.cls := findClass_of_methodNamed B.named
  have hlocks := B.notSynchronized
  have hS : va_S (fr nW ad s.heap.size) s.heap s.heap [] := va_S.rf
  have hA : ∀ k, k < nW → fr nW ad s.heap.size (ad k) := fr_ad
  have hl := lv_entry ([.ref (ad 102), .int (nI (v)), .int (nI (n)), .long (u)]) (n := 13) (Nat.le_of_ble_eq_true rfl)
  rw [lg_entry_eq]
  generalize (lg_sl ([.ref (ad 102), .int (nI (v)), .int (nI (n)), .long (u)]) ++ List.replicate (13 - (lg_sl ([.ref (ad 102), .int (nI (v)), .int (nI (n)), .long (u)])).length) Slot.unset).toArray = ls at hl ⊢
  have hl : lv_has ls 13 [(0, .ref (ad 102)), (1, .int (nI (v))), (2, .int (nI (n))), (3, .long (u))] := hl
  have hS0 := hS
  suffices K : ∀ (H : Heap) (locs : List Loc), WP nW D cA ad I J X H → va_S (fr nW ad s.heap.size) s.heap H locs → W p l e (headSpec wsX5_sends ({ frames := 3, cells := 0, slots := 0, locals := 70 })).room s m ([.ref (ad 102), .int (nI (v)), .int (nI (n)), .long (u)] : List Value).toArray below meth c H locs 0 0 (MQ below (qV nW D cA ad s.heap.size I (sendM I J v n u lo) X) ([.ref (ad 102), .int (nI (v)), .int (nI (n)), .long (u)] : List Value).toArray s 0 0 (fr nW ad s.heap.size)) (F0 m 0 ls []) from K _ _ hP hS
  clear hP hS hS0
  intro H locs hP hS
  refine lv_lload_n hx hb dX5_sends_0 rfl (lv_at hl 3 rfl) ?_
  refine lv_lstore (lv' := [(5, .long (u)), (0, .ref (ad 102)), (1, .int (nI (v))), (2, .int (nI (n))), (3, .long (u))]) hx hb dX5_sends_1 hl (by decide) rfl (fun ls hl => ?_)
  refine lv_iconst (v := (-1)) hx hb dX5_sends_3 (by decide) ?_
  refine lv_istore (lv' := [(7, .int ((-1))), (5, .long (u)), (0, .ref (ad 102)), (1, .int (nI (v))), (2, .int (nI (n))), (3, .long (u))]) hx hb dX5_sends_4 hl (by decide) rfl (fun ls hl => ?_)
  refine lv_aload_n hx hb dX5_sends_6 rfl (lv_at hl 2 rfl) ?_
  refine lv_iload_n hx hb dX5_sends_7 rfl (lv_at hl 4 rfl) ?_
  refine w_calli (va_runV (As := [.int (nI (n))]) (rest := []) ⟨hx, hb, hml, hown, hts⟩ (c_X5_sumOf l nW D cA ad hi hNW I J X H.size n (by omega)) (cwV 1 hts gX5_sends_X5_sumOf rfl rfl rfl (by decide +kernel) ⟨Nat.le_of_ble_eq_true rfl, Nat.le_of_ble_eq_true rfl⟩) (w_preV hK hP 102 (by omega) ⟨rfl, rfl⟩ rfl) rfl rfl hl.1 rfl (lv_room (Nat.le_of_ble_eq_true rfl)) dX5_sends_8 ⟨Nat.le_of_ble_eq_true rfl, Nat.le_of_ble_eq_true rfl⟩) hS (fun H locs hP hS => ?_)
  refine lv_istore (lv' := [(8, .int (suM I n)), (7, .int ((-1))), (5, .long (u)), (0, .ref (ad 102)), (1, .int (nI (v))), (2, .int (nI (n))), (3, .long (u))]) hx hb dX5_sends_11 hl (by decide) rfl (fun ls hl => ?_)
  refine lv_bipush (v := 8) hx hb dX5_sends_13 (by decide) ?_
  refine lv_istore (lv' := [(9, .int (8)), (8, .int (suM I n)), (7, .int ((-1))), (5, .long (u)), (0, .ref (ad 102)), (1, .int (nI (v))), (2, .int (nI (n))), (3, .long (u))]) hx hb dX5_sends_15 hl (by decide) rfl (fun ls hl => ?_)
  refine lp_X5_sends hi hNW hx hb hml hown hts hK I X v n u hv4 hn9 (sdD I v n u 9 u (-1) J).1 (sdD I v n u 9 u (-1) J).2.1 (sdD I v n u 9 u (-1) J).2.2 (fun H locs hP hS ls hl => ?_) 9 u (-1) J (by omega) rfl H locs hP hS ls (lv_cong (l := [(9, .int (8)), (7, .int ((-1))), (5, .long (u)), (8, .int (suM I n)), (1, .int (nI (v))), (2, .int (nI (n))), (3, .long (u)), (0, .ref (ad 102))]) (l' := [(9, .int (dn 9)), (7, .int (-1)), (5, .long (u)), (8, .int (suM I n)), (1, .int (nI (v))), (2, .int (nI (n))), (3, .long (u)), (0, .ref (ad 102))]) (lv_sub hl [0, 2, 3, 1, 5, 6, 7, 4] rfl) (by subst_vars; rfl))
  have hlo9 := hlo.1
  refine lv_aload_n hx hb dX5_sends_104 rfl (lv_at hl 4 rfl) ?_
  refine w_get (C := RX5) (T := TX5) (N := 15) (v := .ref (ad 105)) (index := 23) hx hb hts inX5_sends_X5 hown hK hP 102 5 ⟨rfl, rfl, by decide⟩ (by omega) rfl (List.mem_of_getElem? (i := 1) rfl) (fun _ h9 => h9) dX5_sends_105 ?_
  refine lv_bipush (v := 9) hx hb dX5_sends_108 (by decide) ?_
  refine lv_iload_n hx hb dX5_sends_110 rfl (lv_at hl 2 rfl) ?_
  refine w_imulN (a := 9) (b := v) hx hb rfl rfl dX5_sends_111 ?_
  refine lv_iload hx hb dX5_sends_112 (lv_at hl 0 rfl) ?_
  refine w_iaddN (a := (9 * v)) (b := lo) hx hb rfl (sdD_low hlo 9 u (-1) J (Or.inl hlo.1)) dX5_sends_114 ?_
  refine lv_dup2_11 hx hb dX5_sends_115 rfl rfl ?_
  refine w_lald hx hb hK hP 105 ((9 * v) + lo) ⟨rfl, (by show (9 * v) + lo < 36; omega)⟩ (by omega) rfl dX5_sends_116 ?_
  refine lv_lload hx hb dX5_sends_117 (lv_at hl 1 rfl) ?_
  refine lv_ladd hx hb dX5_sends_119 ?_
  refine w_last (v := (((sdD I v n u 9 u (-1) J).2.2) 105 ((9 * v) + lo)) + ((sdD I v n u 9 u (-1) J).1)) hx hb hK hP hi hA hS 105 ((9 * v) + lo) ⟨rfl, (by show (9 * v) + lo < 36; omega)⟩ (by omega) rfl dX5_sends_120 (fun H locs hP hS => ?_)
  obtain ⟨J_1, eJ_1⟩ : ∃ y, y = st2 ((sdD I v n u 9 u (-1) J).2.2) 105 ((9 * v) + lo) ((((sdD I v n u 9 u (-1) J).2.2) 105 ((9 * v) + lo)) + ((sdD I v n u 9 u (-1) J).1)) := ⟨_, rfl⟩
  have hP : WP nW D cA ad I J_1 X H := by rw [eJ_1]; exact hP
  refine lv_aload_n hx hb dX5_sends_121 rfl (lv_at hl 4 rfl) ?_
  refine w_get (C := RX5) (T := TX5) (N := 15) (v := .ref (ad 107)) (index := 30) hx hb hts inX5_sends_X5 hown hK hP 102 7 ⟨rfl, rfl, by decide⟩ (by omega) rfl (List.mem_of_getElem? (i := 2) rfl) (fun _ h9 => h9) dX5_sends_122 ?_
  refine lv_bipush (v := 81) hx hb dX5_sends_125 (by decide) ?_
  refine lv_iload_n hx hb dX5_sends_127 rfl (lv_at hl 2 rfl) ?_
  refine w_imulN (a := 81) (b := v) hx hb rfl rfl dX5_sends_128 ?_
  refine lv_bipush (v := 9) hx hb dX5_sends_129 (by decide) ?_
  refine lv_iload_n hx hb dX5_sends_131 rfl (lv_at hl 3 rfl) ?_
  refine w_imulN (a := 9) (b := n) hx hb rfl rfl dX5_sends_132 ?_
  refine w_iaddN (a := (81 * v)) (b := (9 * n)) hx hb rfl rfl dX5_sends_133 ?_
  refine lv_iload hx hb dX5_sends_134 (lv_at hl 0 rfl) ?_
  refine w_iaddN (a := ((81 * v) + (9 * n))) (b := lo) hx hb rfl (sdD_low hlo 9 u (-1) J (Or.inl hlo.1)) dX5_sends_136 ?_
  refine lv_dup2_11 hx hb dX5_sends_137 rfl rfl ?_
  refine w_lald hx hb hK hP 107 (((81 * v) + (9 * n)) + lo) ⟨rfl, (by show ((81 * v) + (9 * n)) + lo < 324; omega)⟩ (by omega) rfl dX5_sends_138 ?_
  refine lv_lload hx hb dX5_sends_139 (lv_at hl 1 rfl) ?_
  refine lv_ladd hx hb dX5_sends_141 ?_
  refine w_last (v := (J_1 107 (((81 * v) + (9 * n)) + lo)) + ((sdD I v n u 9 u (-1) J).1)) hx hb hK hP hi hA hS 107 (((81 * v) + (9 * n)) + lo) ⟨rfl, (by show ((81 * v) + (9 * n)) + lo < 324; omega)⟩ (by omega) rfl dX5_sends_142 (fun H locs hP hS => ?_)
  obtain ⟨J_2, eJ_2⟩ : ∃ y, y = st2 J_1 107 (((81 * v) + (9 * n)) + lo) ((J_1 107 (((81 * v) + (9 * n)) + lo)) + ((sdD I v n u 9 u (-1) J).1)) := ⟨_, rfl⟩
  have hP : WP nW D cA ad I J_2 X H := by rw [eJ_2]; exact hP
  exact w_vret hx hb hr hlocks hK hP hS ⟨by subst_vars; rfl, by subst_vars; rfl, by subst_vars; rfl⟩ dX5_sends_143

/-- each node's lowest neighbour -/
def RefOK (I : SI) (lo : Nat → Nat → Nat) : Prop := ∀ v n, v < 4 → n < 9 → LowOK I v n (lo v n)
def landM (I : SI) (J : SJ) (v n : Nat) : Int64 := J 105 (9 * v + n) * ((100 - I 102 2).toInt64) / 100
def pushM (I : SI) (lo : Nat → Nat → Nat) (J : SJ) (v n : Nat) : SJ :=
  sendM I (st2 (st2 J 105 (9 * v + n) 0) 106 (9 * v + n) ((st2 J 105 (9 * v + n) 0) 106 (9 * v + n) + landM I J v n)) v n (J 105 (9 * v + n) - landM I J v n) (lo v n)
def pushMI (I : SI) : SI := st2 I 102 4 (I 102 4 + 1)
def unM (J : SJ) (v n : Nat) (bd : Int32) : Bool := decide (bd.toInt64 ≤ J 105 (9 * v + n)) || decide (J 105 (9 * v + n) ≤ (-bd).toInt64)
def nxF (J : SJ) (v : Nat) (bd : Int32) : Nat → Nat → Int32
  | 0, _ => -1
  | t + 1, j => if unM J v j bd then nI j else nxF J v bd t (j + 1)
theorem nxF_y {J : SJ} {v : Nat} {bd : Int32} {t j : Nat} (h : bd.toInt64 ≤ J 105 (9 * v + j) ∨ J 105 (9 * v + j) ≤ (-bd).toInt64) : nxF J v bd (t + 1) j = nI j := by
  unfold nxF
  rw [if_pos]
  unfold unM
  rcases h with h | h <;> simp [h]
theorem nxF_n {J : SJ} {v : Nat} {bd : Int32} {t j : Nat} (h1 : ¬ bd.toInt64 ≤ J 105 (9 * v + j)) (h2 : ¬ J 105 (9 * v + j) ≤ (-bd).toInt64) : nxF J v bd (t + 1) j = nxF J v bd t (j + 1) := by
  rw [nxF]
  rw [if_neg]
  unfold unM
  simp [h1, h2]

theorem inX5_push_X5 : ∀ w ∈ wsX50, w ∈ wsX5_push := by decide +kernel
set_option maxHeartbeats 4000000 in
set_option maxRecDepth 100000 in
/-- X5_push -/
theorem c_X5_push (l : Launch) (nW : Nat) (D : va_G) (cA : Nat → ClassId) (ad : Nat → Nat) (hi : inj nW ad) (hNW : 114 ≤ nW) (I : SI) (J : SJ) (X : SX) (sz : Nat) (v n : Nat) (hv4 : v < 4) (hn9 : n < 9) (lo : Nat → Nat → Nat) (hlo : RefOK I lo) : Met l yX5_push wsX5_push ({ frames := 4, cells := 0, slots := 0, locals := 102 }) (va_Pc [.ref (ad 102), .int (nI (v)), .int (nI (n))] (wPre nW D cA ad I J X sz)) (qV nW D cA ad sz (pushMI I) (pushM I lo J v n) X) 0 0 (fr nW ad sz) := by
  refine Met.ofW (cc := cX5_push) (maxL := 7) (ret := none) (by decide) rfl ?_
  intro p e s m args below meth c s₁ B hml hv
  obtain ⟨rfl, rfl, hP, hK⟩ := hv
  have hx := B.exec
  have hb := B.bytes
  have hr := B.returns
  have hts := atoms_spec (ws := wsX5_push) B.pre
  have hown : s.vm.findClass RX5 = some m.cls := findClass_of_methodNamed B.named
  have hlocks := B.notSynchronized
  have hS : va_S (fr nW ad s.heap.size) s.heap s.heap [] := va_S.rf
  have hA : ∀ k, k < nW → fr nW ad s.heap.size (ad k) := fr_ad
  have hl := lv_entry ([.ref (ad 102), .int (nI (v)), .int (nI (n))]) (n := 7) (Nat.le_of_ble_eq_true rfl)
  rw [lg_entry_eq]
  generalize (lg_sl ([.ref (ad 102), .int (nI (v)), .int (nI (n))]) ++ List.replicate (7 - (lg_sl ([.ref (ad 102), .int (nI (v)), .int (nI (n))])).length) Slot.unset).toArray = ls at hl ⊢
  have hl : lv_has ls 7 [(0, .ref (ad 102)), (1, .int (nI (v))), (2, .int (nI (n)))] := hl
  have hS0 := hS
  suffices K : ∀ (H : Heap) (locs : List Loc), WP nW D cA ad I J X H → va_S (fr nW ad s.heap.size) s.heap H locs → W p l e (headSpec wsX5_push ({ frames := 4, cells := 0, slots := 0, locals := 102 })).room s m ([.ref (ad 102), .int (nI (v)), .int (nI (n))] : List Value).toArray below meth c H locs 0 0 (MQ below (qV nW D cA ad s.heap.size (pushMI I) (pushM I lo J v n) X) ([.ref (ad 102), .int (nI (v)), .int (nI (n))] : List Value).toArray s 0 0 (fr nW ad s.heap.size)) (F0 m 0 ls []) from K _ _ hP hS
  clear hP hS hS0
  intro H locs hP hS
  refine lv_aload_n hx hb dX5_push_0 rfl (lv_at hl 0 rfl) ?_
  refine w_get (C := RX5) (T := TX5) (N := 15) (v := .ref (ad 105)) (index := 23) hx hb hts inX5_push_X5 hown hK hP 102 5 ⟨rfl, rfl, by decide⟩ (by omega) rfl (List.mem_of_getElem? (i := 1) rfl) (fun _ h9 => h9) dX5_push_1 ?_
  refine lv_bipush (v := 9) hx hb dX5_push_4 (by decide) ?_
  refine lv_iload_n hx hb dX5_push_6 rfl (lv_at hl 1 rfl) ?_
  refine w_imulN (a := 9) (b := v) hx hb rfl rfl dX5_push_7 ?_
  refine lv_iload_n hx hb dX5_push_8 rfl (lv_at hl 2 rfl) ?_
  refine w_iaddN (a := (9 * v)) (b := n) hx hb rfl rfl dX5_push_9 ?_
  refine w_lald hx hb hK hP 105 ((9 * v) + n) ⟨rfl, (by show (9 * v) + n < 36; omega)⟩ (by omega) rfl dX5_push_10 ?_
  refine lv_topl (fun tk etk => ?_)
  refine lv_lstore_n (lv' := [(3, .long (tk)), (0, .ref (ad 102)), (1, .int (nI (v))), (2, .int (nI (n)))]) hx hb dX5_push_11 rfl hl (by decide) rfl (fun ls hl => ?_)
  refine lv_lload_n hx hb dX5_push_12 rfl (lv_at hl 0 rfl) ?_
  refine lv_bipush (v := 100) hx hb dX5_push_13 (by decide) ?_
  refine lv_aload_n hx hb dX5_push_15 rfl (lv_at hl 1 rfl) ?_
  refine w_get (C := RX5) (T := TX5) (N := 15) (v := .int (I 102 2)) (index := 16) hx hb hts inX5_push_X5 hown hK hP 102 2 ⟨rfl, rfl, by decide⟩ (by omega) rfl (List.mem_of_getElem? (i := 2) rfl) (fun _ h9 => h9) dX5_push_16 ?_
  refine lv_isub hx hb dX5_push_19 ?_
  refine lv_i2l (v := (100 - (I 102 2)).toInt64) hx hb dX5_push_20 rfl ?_
  refine lv_lmul hx hb dX5_push_21 ?_
  refine lv_ldc2 (v := 100) hx hb hown (hts (.constantLong RX5 73 (100)) (List.mem_of_getElem? (i := 3) rfl)) dX5_push_22 ?_
  refine lv_ldiv hx hb dX5_push_25 (by decide) ?_
  refine lv_topl (fun ld eld => ?_)
  refine lv_lstore (lv' := [(5, .long (ld)), (3, .long (tk)), (0, .ref (ad 102)), (1, .int (nI (v))), (2, .int (nI (n)))]) hx hb dX5_push_26 hl (by decide) rfl (fun ls hl => ?_)
  refine lv_aload_n hx hb dX5_push_28 rfl (lv_at hl 2 rfl) ?_
  refine w_get (C := RX5) (T := TX5) (N := 15) (v := .ref (ad 105)) (index := 23) hx hb hts inX5_push_X5 hown hK hP 102 5 ⟨rfl, rfl, by decide⟩ (by omega) rfl (List.mem_of_getElem? (i := 1) rfl) (fun _ h9 => h9) dX5_push_29 ?_
  refine lv_bipush (v := 9) hx hb dX5_push_32 (by decide) ?_
  refine lv_iload_n hx hb dX5_push_34 rfl (lv_at hl 3 rfl) ?_
  refine w_imulN (a := 9) (b := v) hx hb rfl rfl dX5_push_35 ?_
  refine lv_iload_n hx hb dX5_push_36 rfl (lv_at hl 4 rfl) ?_
  refine w_iaddN (a := (9 * v)) (b := n) hx hb rfl rfl dX5_push_37 ?_
  refine lv_lconst (v := 0) hx hb dX5_push_38 rfl ?_
  refine w_last (v := 0) hx hb hK hP hi hA hS 105 ((9 * v) + n) ⟨rfl, (by show (9 * v) + n < 36; omega)⟩ (by omega) rfl dX5_push_39 (fun H locs hP hS => ?_)
  obtain ⟨J_1, eJ_1⟩ : ∃ y, y = st2 J 105 ((9 * v) + n) (0) := ⟨_, rfl⟩
  have hP : WP nW D cA ad I J_1 X H := by rw [eJ_1]; exact hP
  refine lv_aload_n hx hb dX5_push_40 rfl (lv_at hl 2 rfl) ?_
  refine w_get (C := RX5) (T := TX5) (N := 15) (v := .ref (ad 106)) (index := 27) hx hb hts inX5_push_X5 hown hK hP 102 6 ⟨rfl, rfl, by decide⟩ (by omega) rfl (List.mem_of_getElem? (i := 4) rfl) (fun _ h9 => h9) dX5_push_41 ?_
  refine lv_bipush (v := 9) hx hb dX5_push_44 (by decide) ?_
  refine lv_iload_n hx hb dX5_push_46 rfl (lv_at hl 3 rfl) ?_
  refine w_imulN (a := 9) (b := v) hx hb rfl rfl dX5_push_47 ?_
  refine lv_iload_n hx hb dX5_push_48 rfl (lv_at hl 4 rfl) ?_
  refine w_iaddN (a := (9 * v)) (b := n) hx hb rfl rfl dX5_push_49 ?_
  refine lv_dup2_11 hx hb dX5_push_50 rfl rfl ?_
  refine w_lald hx hb hK hP 106 ((9 * v) + n) ⟨rfl, (by show (9 * v) + n < 36; omega)⟩ (by omega) rfl dX5_push_51 ?_
  refine lv_lload hx hb dX5_push_52 (lv_at hl 0 rfl) ?_
  refine lv_ladd hx hb dX5_push_54 ?_
  refine w_last (v := (J_1 106 ((9 * v) + n)) + ld) hx hb hK hP hi hA hS 106 ((9 * v) + n) ⟨rfl, (by show (9 * v) + n < 36; omega)⟩ (by omega) rfl dX5_push_55 (fun H locs hP hS => ?_)
  obtain ⟨J_2, eJ_2⟩ : ∃ y, y = st2 J_1 106 ((9 * v) + n) ((J_1 106 ((9 * v) + n)) + ld) := ⟨_, rfl⟩
  have hP : WP nW D cA ad I J_2 X H := by rw [eJ_2]; exact hP
  refine lv_aload_n hx hb dX5_push_56 rfl (lv_at hl 2 rfl) ?_
  refine lv_iload_n hx hb dX5_push_57 rfl (lv_at hl 3 rfl) ?_
  refine lv_iload_n hx hb dX5_push_58 rfl (lv_at hl 4 rfl) ?_
  refine lv_lload_n hx hb dX5_push_59 rfl (lv_at hl 1 rfl) ?_
  refine lv_lload hx hb dX5_push_60 (lv_at hl 0 rfl) ?_
  refine lv_lsub hx hb dX5_push_62 ?_
  refine w_callv (va_runV (As := [.int (nI (v)), .int (nI (n)), .long (tk - ld)]) (rest := []) ⟨hx, hb, hml, hown, hts⟩ (c_X5_sends l nW D cA ad hi hNW I J_2 X H.size v n (tk - ld) (by omega) (by omega) (lo v n) (hlo v n hv4 hn9)) (cwV 3 hts gX5_push_X5_sends rfl rfl rfl (by decide +kernel) ⟨Nat.le_of_ble_eq_true rfl, Nat.le_of_ble_eq_true rfl⟩) (w_preV hK hP 102 (by omega) ⟨rfl, rfl⟩ rfl) rfl rfl hl.1 rfl (lv_room (Nat.le_of_ble_eq_true rfl)) dX5_push_63 ⟨Nat.le_of_ble_eq_true rfl, Nat.le_of_ble_eq_true rfl⟩) hS (fun H locs hP hS => ?_)
  refine lv_aload_n hx hb dX5_push_66 rfl (lv_at hl 2 rfl) ?_
  refine lv_dup hx hb dX5_push_67 rfl ?_
  refine w_get (C := RX5) (T := TX5) (N := 15) (v := .int (I 102 4)) (index := 79) hx hb hts inX5_push_X5 hown hK hP 102 4 ⟨rfl, rfl, by decide⟩ (by omega) rfl (List.mem_of_getElem? (i := 5) rfl) (fun _ h9 => h9) dX5_push_68 ?_
  refine lv_iconst (v := 1) hx hb dX5_push_71 (by decide) ?_
  refine lv_iadd hx hb dX5_push_72 ?_
  refine w_put (C := RX5) (T := TX5) (N := 15) (index := 79) (v := (I 102 4) + 1) hx hb hts inX5_push_X5 tyX5 tyX5_ok nmX5 hown hK hP hi hA hS 102 4 ⟨rfl, rfl, by decide⟩ (by omega) rfl (by exact (by decide : 4 < 15)) (List.mem_of_getElem? (i := 5) rfl) (fun _ h9 => h9) rfl (by decide +kernel) dX5_push_73 (fun H locs hP hS => ?_)
  obtain ⟨I_3, eI_3⟩ : ∃ y, y = st2 I 102 4 ((I 102 4) + 1) := ⟨_, rfl⟩
  have hP : WP nW D cA ad I_3 (sendM I J_2 v n (tk - ld) (lo v n)) X H := by rw [eI_3]; exact hP
  exact w_vret hx hb hr hlocks hK hP hS ⟨by subst_vars; rfl, by subst_vars; rfl, by subst_vars; rfl⟩ dX5_push_76

theorem inX5_next_X5 : ∀ w ∈ wsX50, w ∈ wsX5_next := by decide +kernel
set_option maxHeartbeats 4000000 in
set_option maxRecDepth 100000 in
theorem lp_X5_next {p : Program} {l : Launch} {e : Env} {s : State} {m : MethodId} {args : Array Value} {below : List Frame} {meth : Method} {c : Code} {Q : State → Prop} {nW : Nat} {D : va_G} {cA : Nat → ClassId} {ad : Nat → Nat} (hi : inj nW ad) (hNW : 114 ≤ nW) (hx : p.tables.exec = Jvm.exec) (hb : c.code = cX5_next) (hml : c.maxLocals = 5) (hown : s.vm.findClass RX5 = some m.cls) (hts : ∀ w ∈ wsX5_next, w.before args s = true) (hK : WK D cA s) (I : SI) (J : SJ) (X : SX) (v : Nat) (hv4 : v < 4) (kx : nxF J v (I 102 3) 9 0 = -1 → ∀ (H : Heap) (locs : List Loc), WP nW D cA ad I J X H → va_S (fr nW ad s.heap.size) s.heap H locs → ∀ (ls : Array Slot), lv_has ls 5 [(0, .ref (ad 102))] → W p l e (headSpec wsX5_next ({ frames := 0, cells := 0, slots := 0, locals := 0 })).room s m args below meth c H locs 0 0 Q (F0 m 49 ls [])) (kr : ∀ (j : Nat), j < 9 → nxF J v (I 102 3) 9 0 = nI j → ∀ (H : Heap) (locs : List Loc), WP nW D cA ad I J X H → va_S (fr nW ad s.heap.size) s.heap H locs → ∀ (ls : Array Slot), lv_has ls 5 [(2, .int (nI (j))), (0, .ref (ad 102))] → W p l e (headSpec wsX5_next ({ frames := 0, cells := 0, slots := 0, locals := 0 })).room s m args below meth c H locs 0 0 Q (F0 m 41 ls [])) : ∀ (t j : Nat), j + t = 9 → (hq : nxF J v (I 102 3) 9 0 = nxF J v (I 102 3) t j) → ∀ (H : Heap) (locs : List Loc), WP nW D cA ad I J X H → va_S (fr nW ad s.heap.size) s.heap H locs → ∀ (ls : Array Slot), lv_has ls 5 [(2, .int (nI (j))), (1, .int (nI (v))), (0, .ref (ad 102))] → W p l e (headSpec wsX5_next ({ frames := 0, cells := 0, slots := 0, locals := 0 })).room s m args below meth c H locs 0 0 Q (F0 m 2 ls []) := by
  have hA : ∀ k, k < nW → fr nW ad s.heap.size (ad k) := fr_ad
  intro t
  induction t with
  | zero =>
    intro j hj hq H locs hP hS ls hl
    obtain rfl : 9 = j := by omega
    refine lv_iload_n hx hb dX5_next_2 rfl (lv_at hl 0 rfl) ?_
    refine lv_bipush (v := 9) hx hb dX5_next_3 (by decide) ?_
    refine lv_icmp_ge (tgt := 49) hx hb dX5_next_5 (by decide) (fun cc => ?_) (fun cc => ?_)
    · have qcc : 9 ≤ 9 := (wn_le (a := 9) (b := 9) rfl rfl (by omega) (by omega)).mp cc
      exact kx hq H locs hP hS ls (lv_sub hl [2] rfl)
    · have qcc : ¬ 9 ≤ 9 := fun z => cc ((wn_le (a := 9) (b := 9) rfl rfl (by omega) (by omega)).mpr z)
      exact absurd qcc (by omega)
  | succ t ih =>
    intro j hj hq H locs hP hS ls hl
    refine lv_iload_n hx hb dX5_next_2 rfl (lv_at hl 0 rfl) ?_
    refine lv_bipush (v := 9) hx hb dX5_next_3 (by decide) ?_
    refine lv_icmp_ge (tgt := 49) hx hb dX5_next_5 (by decide) (fun cc => ?_) (fun cc => ?_)
    · have qcc : 9 ≤ j := (wn_le (a := 9) (b := j) rfl rfl (by omega) (by omega)).mp cc
      exact absurd qcc (by omega)
    · have qcc : ¬ 9 ≤ j := fun z => cc ((wn_le (a := 9) (b := j) rfl rfl (by omega) (by omega)).mpr z)
      refine lv_aload_n hx hb dX5_next_8 rfl (lv_at hl 2 rfl) ?_
      refine w_get (C := RX5) (T := TX5) (N := 15) (v := .ref (ad 105)) (index := 23) hx hb hts inX5_next_X5 hown hK hP 102 5 ⟨rfl, rfl, by decide⟩ (by omega) rfl (List.mem_of_getElem? (i := 1) rfl) (fun _ h9 => h9) dX5_next_9 ?_
      refine lv_bipush (v := 9) hx hb dX5_next_12 (by decide) ?_
      refine lv_iload_n hx hb dX5_next_14 rfl (lv_at hl 1 rfl) ?_
      refine w_imulN (a := 9) (b := v) hx hb rfl rfl dX5_next_15 ?_
      refine lv_iload_n hx hb dX5_next_16 rfl (lv_at hl 0 rfl) ?_
      refine w_iaddN (a := (9 * v)) (b := j) hx hb rfl rfl dX5_next_17 ?_
      refine w_lald hx hb hK hP 105 ((9 * v) + j) ⟨rfl, (by show (9 * v) + j < 36; omega)⟩ (by omega) rfl dX5_next_18 ?_
      refine lv_lstore_n (lv' := [(3, .long (J 105 ((9 * v) + j))), (2, .int (nI (j))), (1, .int (nI (v))), (0, .ref (ad 102))]) hx hb dX5_next_19 rfl hl (by decide) rfl (fun ls hl => ?_)
      refine lv_lload_n hx hb dX5_next_20 rfl (lv_at hl 0 rfl) ?_
      refine lv_aload_n hx hb dX5_next_21 rfl (lv_at hl 3 rfl) ?_
      refine w_get (C := RX5) (T := TX5) (N := 15) (v := .int (I 102 3)) (index := 20) hx hb hts inX5_next_X5 hown hK hP 102 3 ⟨rfl, rfl, by decide⟩ (by omega) rfl (List.mem_of_getElem? (i := 2) rfl) (fun _ h9 => h9) dX5_next_22 ?_
      refine lv_i2l (v := (I 102 3).toInt64) hx hb dX5_next_25 rfl ?_
      refine W.lcmp hx hb dX5_next_26 ?_
      refine lv_if_ge (tgt := 41) hx hb dX5_next_27 (by decide) (fun ca => ?_) (fun ca => ?_)
      · have qca := (lg_cmp_ge _ _).mp ca
        have hy : (I 102 3).toInt64 ≤ J 105 (9 * v + j) ∨ J 105 (9 * v + j) ≤ (-(I 102 3)).toInt64 := Or.inl qca
        exact kr j (by omega) (hq.trans (nxF_y hy)) H locs hP hS ls (lv_sub hl [1, 3] rfl)
      · have qca := fun z => ca ((lg_cmp_ge _ _).mpr z)
        have hn1 := qca
        refine lv_lload_n hx hb dX5_next_30 rfl (lv_at hl 0 rfl) ?_
        refine lv_aload_n hx hb dX5_next_31 rfl (lv_at hl 3 rfl) ?_
        refine w_get (C := RX5) (T := TX5) (N := 15) (v := .int (I 102 3)) (index := 20) hx hb hts inX5_next_X5 hown hK hP 102 3 ⟨rfl, rfl, by decide⟩ (by omega) rfl (List.mem_of_getElem? (i := 2) rfl) (fun _ h9 => h9) dX5_next_32 ?_
        refine lv_ineg hx hb dX5_next_35 ?_
        refine lv_i2l (v := (-(I 102 3)).toInt64) hx hb dX5_next_36 rfl ?_
        refine W.lcmp hx hb dX5_next_37 ?_
        refine lv_if_gt (tgt := 43) hx hb dX5_next_38 (by decide) (fun cb => ?_) (fun cb => ?_)
        · have qcb := (lg_cmp_gt _ _).mp cb
          have hn2 := i64_nle qcb
          refine lv_iinc (v := nI (j + 1)) (lv' := [(2, .int (nI (j + 1))), (3, .long (J 105 ((9 * v) + j))), (1, .int (nI (v))), (0, .ref (ad 102))]) hx hb dX5_next_43 hl (k := 1) rfl (wn_inc rfl) (by decide) rfl (fun ls hl => ?_)
          refine lv_goto (tgt := 2) hx hb dX5_next_46 (by decide) ?_
          exact ih (j + 1) (by omega) (hq.trans (nxF_n hn1 hn2)) H locs hP hS ls (lv_cong (l := [(2, .int (nI (j + 1))), (1, .int (nI (v))), (0, .ref (ad 102))]) (l' := [(2, .int (nI ((j + 1)))), (1, .int (nI (v))), (0, .ref (ad 102))]) (lv_sub hl [0, 2, 3] rfl) (by subst_vars; rfl))
        · have qcb := fun z => cb ((lg_cmp_gt _ _).mpr z)
          have hy : (I 102 3).toInt64 ≤ J 105 (9 * v + j) ∨ J 105 (9 * v + j) ≤ (-(I 102 3)).toInt64 := Or.inr (i64_le qcb)
          exact kr j (by omega) (hq.trans (nxF_y hy)) H locs hP hS ls (lv_sub hl [1, 3] rfl)

set_option maxHeartbeats 4000000 in
set_option maxRecDepth 100000 in
/-- X5_next -/
theorem c_X5_next (l : Launch) (nW : Nat) (D : va_G) (cA : Nat → ClassId) (ad : Nat → Nat) (hi : inj nW ad) (hNW : 114 ≤ nW) (I : SI) (J : SJ) (X : SX) (sz : Nat) (v : Nat) (hv4 : v < 4) : Met l yX5_next wsX5_next ({ frames := 0, cells := 0, slots := 0, locals := 0 }) (va_Pc [.ref (ad 102), .int (nI (v))] (wPre nW D cA ad I J X sz)) (qI nW D cA ad sz (nxF J v (I 102 3) 9 0) I J X) 0 0 (fr nW ad sz) := by
  refine Met.ofW (cc := cX5_next) (maxL := 5) (ret := (some .int)) (by decide) rfl ?_
  intro p e s m args below meth c s₁ B hml hv
  obtain ⟨rfl, rfl, hP, hK⟩ := hv
  have hx := B.exec
  have hb := B.bytes
  have hr := B.returns
  have hts := atoms_spec (ws := wsX5_next) B.pre
  have hown : s.vm.findClass RX5 = some m.cls := findClass_of_methodNamed B.named
  have hlocks := B.notSynchronized
  have hS : va_S (fr nW ad s.heap.size) s.heap s.heap [] := va_S.rf
  have hA : ∀ k, k < nW → fr nW ad s.heap.size (ad k) := fr_ad
  have hl := lv_entry ([.ref (ad 102), .int (nI (v))]) (n := 5) (Nat.le_of_ble_eq_true rfl)
  rw [lg_entry_eq]
  generalize (lg_sl ([.ref (ad 102), .int (nI (v))]) ++ List.replicate (5 - (lg_sl ([.ref (ad 102), .int (nI (v))])).length) Slot.unset).toArray = ls at hl ⊢
  have hl : lv_has ls 5 [(0, .ref (ad 102)), (1, .int (nI (v)))] := hl
  have hS0 := hS
  suffices K : ∀ (H : Heap) (locs : List Loc), WP nW D cA ad I J X H → va_S (fr nW ad s.heap.size) s.heap H locs → W p l e (headSpec wsX5_next ({ frames := 0, cells := 0, slots := 0, locals := 0 })).room s m ([.ref (ad 102), .int (nI (v))] : List Value).toArray below meth c H locs 0 0 (MQ below (qI nW D cA ad s.heap.size (nxF J v (I 102 3) 9 0) I J X) ([.ref (ad 102), .int (nI (v))] : List Value).toArray s 0 0 (fr nW ad s.heap.size)) (F0 m 0 ls []) from K _ _ hP hS
  clear hP hS hS0
  intro H locs hP hS
  refine lv_iconst (v := 0) hx hb dX5_next_0 (by decide) ?_
  refine lv_istore_n (lv' := [(2, .int (0)), (0, .ref (ad 102)), (1, .int (nI (v)))]) hx hb dX5_next_1 rfl hl (by decide) rfl (fun ls hl => ?_)
  refine lp_X5_next hi hNW hx hb hml hown hts hK I J X v hv4 (fun h49 H locs hP hS ls hl => ?_) (fun j j9 h41 H locs hP hS ls hl => ?_) (9) (0) (by omega) rfl H locs hP hS ls (lv_cong (l := [(2, .int (0)), (1, .int (nI (v))), (0, .ref (ad 102))]) (l' := [(2, .int (nI (0))), (1, .int (nI (v))), (0, .ref (ad 102))]) (lv_sub hl [0, 2, 1] rfl) (by subst_vars; rfl))
  · refine lv_iconst (v := (-1)) hx hb dX5_next_49 (by decide) ?_
    exact w_iret hx hb hr hlocks hK hP hS ⟨h49.symm, by subst_vars; rfl, by subst_vars; rfl, by subst_vars; rfl⟩ dX5_next_50
  · refine lv_iload_n hx hb dX5_next_41 rfl (lv_at hl 0 rfl) ?_
    exact w_iret hx hb hr hlocks hK hP hS ⟨h41.symm, by subst_vars; rfl, by subst_vars; rfl, by subst_vars; rfl⟩ dX5_next_42
