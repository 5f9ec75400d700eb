/-! the line of signs: the JDK's own members over it -/
def tL (I : SI) (L : List Nat) : SI := fun a b => if a = 101 ∧ b < L.length then nI (L.getD b 0) else if a = 100 ∧ b = 3 then nI L.length else I a b
theorem tL_cnt (I : SI) (L : List Nat) : tL I L 100 3 = nI L.length := by simp [tL]
theorem tL_cod (I : SI) (L : List Nat) : tL I L 100 1 = I 100 1 := by simp [tL]
theorem tL_b (I : SI) (L : List Nat) {b : Nat} (h : b < L.length) : tL I L 101 b = nI (L.getD b 0) := by simp [tL, h]
theorem tL_o (I : SI) (L : List Nat) {a : Nat} (h : a < 100) : tL I L a = I a := by
  funext b
  unfold tL
  rw [if_neg (by omega), if_neg (by omega)]
theorem tL_put1 (I : SI) (L : List Nat) (c : Nat) : st2 (st2 (tL I L) 100 3 (nI (L.length + 1))) 101 L.length (nI c) = tL I (L ++ [c]) := by
  funext a b
  unfold st2 tL
  by_cases h1 : a = 101
  · subst h1
    by_cases h2 : b = L.length
    · subst h2; simp [List.getD_eq_getElem?_getD]
    · by_cases h3 : b < L.length
      · simp [h2, h3, Nat.lt_succ_of_lt h3, List.getD_eq_getElem?_getD, List.getElem?_append_left h3]
      · simp [h2, h3]; intro h4; omega
  · by_cases h2 : a = 100 ∧ b = 3
    · obtain ⟨rfl, rfl⟩ := h2; simp
    · simp [h1, h2]
theorem tL_put1' (I : SI) (L : List Nat) (c : Nat) : st2 (st2 (tL I L) 101 L.length (nI c)) 100 3 (nI (L.length + 1)) = tL I (L ++ [c]) := by
  rw [← tL_put1]
  funext a b
  unfold st2
  by_cases h1 : a = 100 ∧ b = 3
  · rw [if_pos h1, if_neg (by omega), if_pos h1]
  · rw [if_neg h1]
    by_cases h2 : a = 101 ∧ b = L.length
    · rw [if_pos h2, if_pos h2]
    · rw [if_neg h2, if_neg h2, if_neg h1]
theorem tL_put2 (I : SI) (L : List Nat) (c d : Nat) : st2 (st2 (st2 (tL I L) 101 (L.length + 1) (nI d)) 101 L.length (nI c)) 100 3 (nI (L.length + 2)) = tL I (L ++ [c, d]) := by
  have e : L ++ [c, d] = (L ++ [c]) ++ [d] := by simp
  rw [e, ← tL_put1', ← tL_put1']
  have el : (L ++ [c]).length = L.length + 1 := by simp
  rw [el]
  funext a b
  unfold st2
  by_cases h1 : a = 100 ∧ b = 3
  · rw [if_pos h1, if_pos h1]
  · rw [if_neg h1, if_neg h1]
    by_cases h2 : a = 101 ∧ b = L.length
    · rw [if_pos h2, if_neg (by omega), if_neg h1, if_pos h2]
    · rw [if_neg h2]
      by_cases h3 : a = 101 ∧ b = L.length + 1
      · rw [if_pos h3, if_pos h3]
      · rw [if_neg h3, if_neg h3, if_neg h1, if_neg h2]
theorem tL_cpy (I : SI) (L : List Nat) (i : Nat) : st2 (st1 (tL I L) 101 (va_cpy (liC i) (tL I L 101) 0 L.length (liN i))) 100 3 (nI (L.length + liN i)) = tL I (L ++ liL i) := by
  funext a b
  unfold st2 st1 va_cpy
  by_cases h1 : a = 101
  · subst h1
    rw [if_neg (by omega), if_pos rfl]
    by_cases h2 : L.length ≤ b ∧ b < L.length + liN i
    · rw [if_pos h2]
      obtain ⟨h2, h3⟩ := h2
      have h4 : b < (L ++ liL i).length := by rw [List.length_append]; exact h3
      rw [tL_b _ _ h4]
      unfold liC
      rw [List.getD_eq_getElem?_getD, List.getD_eq_getElem?_getD, List.getElem?_append_right h2, Nat.zero_add]
    · rw [if_neg h2]
      by_cases h3 : b < L.length
      · have h4 : b < (L ++ liL i).length := by rw [List.length_append]; omega
        rw [tL_b _ _ h4, tL_b _ _ h3, List.getD_eq_getElem?_getD, List.getD_eq_getElem?_getD, List.getElem?_append_left h3]
      · have h4 : ¬ b < (L ++ liL i).length := by rw [List.length_append]; unfold liN at h2; omega
        unfold tL
        rw [if_neg (by omega), if_neg (by omega), if_neg (by omega), if_neg (by omega)]
  · by_cases h2 : a = 100 ∧ b = 3
    · rw [if_pos h2, h2.1, h2.2, tL_cnt, List.length_append]; rfl
    · rw [if_neg h2, if_neg h1]
      unfold tL
      rw [if_neg (by omega), if_neg h2, if_neg (by omega), if_neg h2]
def dsz (k : Nat) : Nat := if k < 10 then 1 else 2
def dg (k : Nat) : List Nat := if k < 10 then [48 + k] else [48 + k / 10, 48 + k % 10]
theorem ng_10 : ∀ k, k < 100 → (-(nI k) ≤ (-10 : Int32) ↔ 10 ≤ k) := by decide +kernel
theorem ng_100 : ∀ k, k < 100 → ¬ (-(nI k) ≤ (10 : Int32) * (-10)) := by decide +kernel
theorem ng_g100 : ∀ k, k < 100 → (-(nI k) : Int32) > (-100) := by decide +kernel
theorem ng_9 : ∀ k, k < 100 → (-(nI k) ≥ (-9 : Int32) ↔ k < 10) := by decide +kernel
theorem ng_ng (x : Int32) : -(-x) = x := by simp
theorem nI_dec {a : Nat} : nI (a + 1) + Int32.ofInt (-1) = nI a := by
  rw [nI_succ, Int32.add_assoc]
  have : (1 : Int32) + Int32.ofInt (-1) = 0 := by decide
  rw [this, Int32.add_zero]
theorem ec_le : ∀ m, m < 17 → nI m - nI 16 ≤ 0 := by decide +kernel

set_option maxHeartbeats 4000000 in
set_option maxRecDepth 100000 in
/-- J6_stringSize_0f7a4 -/
theorem c_J6_ss1 (l : Launch) (nW : Nat) (D : va_G) (cA : Nat → ClassId) (ad K V : Nat → Nat) (tO tT : Nat) (hi : inj nW ad) (hNW : 102 ≤ nW) (I : SI) (J : SJ) (X : SX) (sz : Nat) (k : Nat) (hk : k < 10) : Met l yJ6_stringSize_0f7a4 wsJ6_stringSize_0f7a4 ({ frames := 0, cells := 0, slots := 0, locals := 0 }) (va_Pc [.int (nI (k))] (wPreL nW D cA ad K V tO tT I J X sz)) (qI nW D cA ad sz (nI 1) I J X) 0 0 (fr nW ad sz) := by
  refine Met.ofW (cc := cJ6_stringSize_0f7a4) (maxL := 4) (ret := (some .int)) (by decide) rfl ?_
  intro p e s m args below meth c s₁ B hml hv
  obtain ⟨rfl, ⟨rfl, hP, hK⟩, hL⟩ := hv
  have hx := B.exec
  have hb := B.bytes
  have hr := B.returns
  have hts := atoms_spec (ws := wsJ6_stringSize_0f7a4) B.pre
  have hown : s.vm.findClass RJ6 = some m.cls := findClass_of_methodNamed B.named
  have hlocks := B.notSynchronized
  have hS : va_S (fr nW ad s.heap.size) s.heap s.heap [] := va_S.rf
  have hA : ∀ k, k < nW → fr nW ad s.heap.size (ad k) := fr_ad
  have hl := lv_entry ([.int (nI (k))]) (n := 4) (Nat.le_of_ble_eq_true rfl)
  rw [lg_entry_eq]
  generalize (lg_sl ([.int (nI (k))]) ++ List.replicate (4 - (lg_sl ([.int (nI (k))])).length) Slot.unset).toArray = ls at hl ⊢
  have hl : lv_has ls 4 [(0, .int (nI (k)))] := hl
  suffices Z9 : ∀ (H : Heap) (locs : List Loc), WP nW D cA ad I J X H → va_S (fr nW ad s.heap.size) s.heap H locs → W p l e (headSpec wsJ6_stringSize_0f7a4 ({ frames := 0, cells := 0, slots := 0, locals := 0 })).room s m ([.int (nI (k))] : List Value).toArray below meth c H locs 0 0 (MQ below (qI nW D cA ad s.heap.size (nI 1) I J X) ([.int (nI (k))] : List Value).toArray s 0 0 (fr nW ad s.heap.size)) (F0 m 0 ls []) from Z9 _ _ hP hS
  clear hP hS
  intro H locs hP hS
  refine lv_iconst (v := 1) hx hb dJ6_stringSize_0f7a4_0 (by decide) ?_
  refine lv_istore_n (lv' := [(1, .int (1)), (0, .int (nI (k)))]) hx hb dJ6_stringSize_0f7a4_1 rfl hl (by decide) rfl (fun ls hl => ?_)
  refine lv_iload_n hx hb dJ6_stringSize_0f7a4_2 rfl (lv_at hl 1 rfl) ?_
  refine lv_if_lt (tgt := 11) hx hb dJ6_stringSize_0f7a4_3 (by decide) (fun c3 => ?_) (fun c3 => ?_)
  · have qc3 : k < 0 := (wn_lt (a := k) (b := 0) rfl rfl (by omega) (by omega)).mp c3
    exact absurd qc3 (by omega)
  · have qc3 : ¬ k < 0 := fun z => c3 ((wn_lt (a := k) (b := 0) rfl rfl (by omega) (by omega)).mpr z)
    refine lv_iconst (v := 0) hx hb dJ6_stringSize_0f7a4_6 (by decide) ?_
    refine lv_istore_n (lv' := [(1, .int (0)), (0, .int (nI (k)))]) hx hb dJ6_stringSize_0f7a4_7 rfl hl (by decide) rfl (fun ls hl => ?_)
    refine lv_iload_n hx hb dJ6_stringSize_0f7a4_8 rfl (lv_at hl 1 rfl) ?_
    refine lv_ineg hx hb dJ6_stringSize_0f7a4_9 ?_
    refine lv_istore_n (lv' := [(0, .int (-(nI (k)))), (1, .int (0))]) hx hb dJ6_stringSize_0f7a4_10 rfl hl (by decide) rfl (fun ls hl => ?_)
    refine lv_bipush (v := (-10)) hx hb dJ6_stringSize_0f7a4_11 (by decide) ?_
    refine lv_istore_n (lv' := [(2, .int ((-10))), (0, .int (-(nI (k)))), (1, .int (0))]) hx hb dJ6_stringSize_0f7a4_13 rfl hl (by decide) rfl (fun ls hl => ?_)
    refine lv_iconst (v := 1) hx hb dJ6_stringSize_0f7a4_14 (by decide) ?_
    refine lv_istore_n (lv' := [(3, .int (1)), (2, .int ((-10))), (0, .int (-(nI (k)))), (1, .int (0))]) hx hb dJ6_stringSize_0f7a4_15 rfl hl (by decide) rfl (fun ls hl => ?_)
    refine lv_iload_n hx hb dJ6_stringSize_0f7a4_16 rfl (lv_at hl 0 rfl) ?_
    refine lv_bipush (v := 10) hx hb dJ6_stringSize_0f7a4_17 (by decide) ?_
    refine lv_icmp_ge (tgt := 42) hx hb dJ6_stringSize_0f7a4_19 (by decide) (fun c19_12 => ?_) (fun c19_12 => ?_)
    · have qc19_12 : 10 ≤ 1 := (wn_le (a := 10) (b := 1) rfl rfl (by omega) (by omega)).mp c19_12
      exact absurd qc19_12 (by omega)
    · have qc19_12 : ¬ 10 ≤ 1 := fun z => c19_12 ((wn_le (a := 10) (b := 1) rfl rfl (by omega) (by omega)).mpr z)
      refine lv_iload_n hx hb dJ6_stringSize_0f7a4_22 rfl (lv_at hl 2 rfl) ?_
      refine lv_iload_n hx hb dJ6_stringSize_0f7a4_23 rfl (lv_at hl 1 rfl) ?_
      refine lv_icmp_le (tgt := 31) hx hb dJ6_stringSize_0f7a4_24 (by decide) (fun c24 => ?_) (fun c24 => ?_)
      · exact absurd ((ng_10 k (by omega)).mp c24) (by omega)
      · refine lv_iload_n hx hb dJ6_stringSize_0f7a4_27 rfl (lv_at hl 0 rfl) ?_
        refine lv_iload_n hx hb dJ6_stringSize_0f7a4_28 rfl (lv_at hl 3 rfl) ?_
        refine w_iaddN (a := 1) (b := 0) hx hb rfl rfl dJ6_stringSize_0f7a4_29 ?_
        exact w_iret hx hb hr hlocks hK hP hS ⟨by subst_vars; rfl, by subst_vars; rfl, by subst_vars; rfl, by subst_vars; rfl⟩ dJ6_stringSize_0f7a4_30

set_option maxHeartbeats 4000000 in
set_option maxRecDepth 100000 in
/-- J6_stringSize_0f7a4 -/
theorem c_J6_ss2 (l : Launch) (nW : Nat) (D : va_G) (cA : Nat → ClassId) (ad K V : Nat → Nat) (tO tT : Nat) (hi : inj nW ad) (hNW : 102 ≤ nW) (I : SI) (J : SJ) (X : SX) (sz : Nat) (k : Nat) (hk : 10 ≤ k) (hk2 : k < 100) : Met l yJ6_stringSize_0f7a4 wsJ6_stringSize_0f7a4 ({ frames := 0, cells := 0, slots := 0, locals := 0 }) (va_Pc [.int (nI (k))] (wPreL nW D cA ad K V tO tT I J X sz)) (qI nW D cA ad sz (nI 2) I J X) 0 0 (fr nW ad sz) := by
  refine Met.ofW (cc := cJ6_stringSize_0f7a4) (maxL := 4) (ret := (some .int)) (by decide) rfl ?_
  intro p e s m args below meth c s₁ B hml hv
  obtain ⟨rfl, ⟨rfl, hP, hK⟩, hL⟩ := hv
  have hx := B.exec
  have hb := B.bytes
  have hr := B.returns
  have hts := atoms_spec (ws := wsJ6_stringSize_0f7a4) B.pre
  have hown : s.vm.findClass RJ6 = some m.cls := findClass_of_methodNamed B.named
  have hlocks := B.notSynchronized
  have hS : va_S (fr nW ad s.heap.size) s.heap s.heap [] := va_S.rf
  have hA : ∀ k, k < nW → fr nW ad s.heap.size (ad k) := fr_ad
  have hl := lv_entry ([.int (nI (k))]) (n := 4) (Nat.le_of_ble_eq_true rfl)
  rw [lg_entry_eq]
  generalize (lg_sl ([.int (nI (k))]) ++ List.replicate (4 - (lg_sl ([.int (nI (k))])).length) Slot.unset).toArray = ls at hl ⊢
  have hl : lv_has ls 4 [(0, .int (nI (k)))] := hl
  suffices Z9 : ∀ (H : Heap) (locs : List Loc), WP nW D cA ad I J X H → va_S (fr nW ad s.heap.size) s.heap H locs → W p l e (headSpec wsJ6_stringSize_0f7a4 ({ frames := 0, cells := 0, slots := 0, locals := 0 })).room s m ([.int (nI (k))] : List Value).toArray below meth c H locs 0 0 (MQ below (qI nW D cA ad s.heap.size (nI 2) I J X) ([.int (nI (k))] : List Value).toArray s 0 0 (fr nW ad s.heap.size)) (F0 m 0 ls []) from Z9 _ _ hP hS
  clear hP hS
  intro H locs hP hS
  refine lv_iconst (v := 1) hx hb dJ6_stringSize_0f7a4_0 (by decide) ?_
  refine lv_istore_n (lv' := [(1, .int (1)), (0, .int (nI (k)))]) hx hb dJ6_stringSize_0f7a4_1 rfl hl (by decide) rfl (fun ls hl => ?_)
  refine lv_iload_n hx hb dJ6_stringSize_0f7a4_2 rfl (lv_at hl 1 rfl) ?_
  refine lv_if_lt (tgt := 11) hx hb dJ6_stringSize_0f7a4_3 (by decide) (fun c3 => ?_) (fun c3 => ?_)
  · have qc3 : k < 0 := (wn_lt (a := k) (b := 0) rfl rfl (by omega) (by omega)).mp c3
    exact absurd qc3 (by omega)
  · have qc3 : ¬ k < 0 := fun z => c3 ((wn_lt (a := k) (b := 0) rfl rfl (by omega) (by omega)).mpr z)
    refine lv_iconst (v := 0) hx hb dJ6_stringSize_0f7a4_6 (by decide) ?_
    refine lv_istore_n (lv' := [(1, .int (0)), (0, .int (nI (k)))]) hx hb dJ6_stringSize_0f7a4_7 rfl hl (by decide) rfl (fun ls hl => ?_)
    refine lv_iload_n hx hb dJ6_stringSize_0f7a4_8 rfl (lv_at hl 1 rfl) ?_
    refine lv_ineg hx hb dJ6_stringSize_0f7a4_9 ?_
    refine lv_istore_n (lv' := [(0, .int (-(nI (k)))), (1, .int (0))]) hx hb dJ6_stringSize_0f7a4_10 rfl hl (by decide) rfl (fun ls hl => ?_)
    refine lv_bipush (v := (-10)) hx hb dJ6_stringSize_0f7a4_11 (by decide) ?_
    refine lv_istore_n (lv' := [(2, .int ((-10))), (0, .int (-(nI (k)))), (1, .int (0))]) hx hb dJ6_stringSize_0f7a4_13 rfl hl (by decide) rfl (fun ls hl => ?_)
    refine lv_iconst (v := 1) hx hb dJ6_stringSize_0f7a4_14 (by decide) ?_
    refine lv_istore_n (lv' := [(3, .int (1)), (2, .int ((-10))), (0, .int (-(nI (k)))), (1, .int (0))]) hx hb dJ6_stringSize_0f7a4_15 rfl hl (by decide) rfl (fun ls hl => ?_)
    refine lv_iload_n hx hb dJ6_stringSize_0f7a4_16 rfl (lv_at hl 0 rfl) ?_
    refine lv_bipush (v := 10) hx hb dJ6_stringSize_0f7a4_17 (by decide) ?_
    refine lv_icmp_ge (tgt := 42) hx hb dJ6_stringSize_0f7a4_19 (by decide) (fun c19_12 => ?_) (fun c19_12 => ?_)
    · have qc19_12 : 10 ≤ 1 := (wn_le (a := 10) (b := 1) rfl rfl (by omega) (by omega)).mp c19_12
      exact absurd qc19_12 (by omega)
    · have qc19_12 : ¬ 10 ≤ 1 := fun z => c19_12 ((wn_le (a := 10) (b := 1) rfl rfl (by omega) (by omega)).mpr z)
      refine lv_iload_n hx hb dJ6_stringSize_0f7a4_22 rfl (lv_at hl 2 rfl) ?_
      refine lv_iload_n hx hb dJ6_stringSize_0f7a4_23 rfl (lv_at hl 1 rfl) ?_
      refine lv_icmp_le (tgt := 31) hx hb dJ6_stringSize_0f7a4_24 (by decide) (fun c24 => ?_) (fun c24 => ?_)
      · refine lv_bipush (v := 10) hx hb dJ6_stringSize_0f7a4_31 (by decide) ?_
        refine lv_iload_n hx hb dJ6_stringSize_0f7a4_33 rfl (lv_at hl 1 rfl) ?_
        refine lv_imul hx hb dJ6_stringSize_0f7a4_34 ?_
        refine lv_istore_n (lv' := [(2, .int (10 * (-10))), (3, .int (1)), (0, .int (-(nI (k)))), (1, .int (0))]) hx hb dJ6_stringSize_0f7a4_35 rfl hl (by decide) rfl (fun ls hl => ?_)
        refine lv_iinc (v := nI (1 + 1)) (lv' := [(3, .int (nI (1 + 1))), (2, .int (10 * (-10))), (0, .int (-(nI (k)))), (1, .int (0))]) hx hb dJ6_stringSize_0f7a4_36 hl (k := 1) rfl (wn_inc rfl) (by decide) rfl (fun ls hl => ?_)
        refine lv_goto (tgt := 16) hx hb dJ6_stringSize_0f7a4_39 (by decide) ?_
        refine lv_iload_n hx hb dJ6_stringSize_0f7a4_16 rfl (lv_at hl 0 rfl) ?_
        refine lv_bipush (v := 10) hx hb dJ6_stringSize_0f7a4_17 (by decide) ?_
        refine lv_icmp_ge (tgt := 42) hx hb dJ6_stringSize_0f7a4_19 (by decide) (fun c19_8 => ?_) (fun c19_8 => ?_)
        · have qc19_8 : 10 ≤ (1 + 1) := (wn_le (a := 10) (b := (1 + 1)) rfl rfl (by omega) (by omega)).mp c19_8
          exact absurd qc19_8 (by omega)
        · have qc19_8 : ¬ 10 ≤ (1 + 1) := fun z => c19_8 ((wn_le (a := 10) (b := (1 + 1)) rfl rfl (by omega) (by omega)).mpr z)
          refine lv_iload_n hx hb dJ6_stringSize_0f7a4_22 rfl (lv_at hl 2 rfl) ?_
          refine lv_iload_n hx hb dJ6_stringSize_0f7a4_23 rfl (lv_at hl 1 rfl) ?_
          refine lv_icmp_le (tgt := 31) hx hb dJ6_stringSize_0f7a4_24 (by decide) (fun c25 => ?_) (fun c25 => ?_)
          · exact absurd c25 (ng_100 k (by omega))
          · refine lv_iload_n hx hb dJ6_stringSize_0f7a4_27 rfl (lv_at hl 0 rfl) ?_
            refine lv_iload_n hx hb dJ6_stringSize_0f7a4_28 rfl (lv_at hl 3 rfl) ?_
            refine w_iaddN (a := (1 + 1)) (b := 0) hx hb rfl rfl dJ6_stringSize_0f7a4_29 ?_
            exact w_iret hx hb hr hlocks hK hP hS ⟨by subst_vars; rfl, by subst_vars; rfl, by subst_vars; rfl, by subst_vars; rfl⟩ dJ6_stringSize_0f7a4_30
      · exact absurd ((ng_10 k (by omega)).mpr hk) c24
