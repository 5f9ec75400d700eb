/-! the line of signs: the JDK's own members over it -/
def tL (I : SI) (L : List Nat) : SI := fun a b => if a = 101 ∧ b < L.length then nI (L.getD b 0) else if a = 100 ∧ b = 3 then nI L.length else I a b
theorem tL_cnt (I : SI) (L : List Nat) : tL I L 100 3 = nI L.length := by simp [tL]
theorem tL_cod (I : SI) (L : List Nat) : tL I L 100 1 = I 100 1 := by simp [tL]
theorem tL_b (I : SI) (L : List Nat) {b : Nat} (h : b < L.length) : tL I L 101 b = nI (L.getD b 0) := by simp [tL, h]
theorem tL_o (I : SI) (L : List Nat) {a : Nat} (h : a < 100) : tL I L a = I a := by
  funext b
  unfold tL
  rw [if_neg (by omega), if_neg (by omega)]
theorem tL_put1 (I : SI) (L : List Nat) (c : Nat) : st2 (st2 (tL I L) 100 3 (nI (L.length + 1))) 101 L.length (nI c) = tL I (L ++ [c]) := by
  funext a b
  unfold st2 tL
  by_cases h1 : a = 101
  · subst h1
    by_cases h2 : b = L.length
    · subst h2; simp [List.getD_eq_getElem?_getD]
    · by_cases h3 : b < L.length
      · simp [h2, h3, Nat.lt_succ_of_lt h3, List.getD_eq_getElem?_getD, List.getElem?_append_left h3]
      · simp [h2, h3]; intro h4; omega
  · by_cases h2 : a = 100 ∧ b = 3
    · obtain ⟨rfl, rfl⟩ := h2; simp
    · simp [h1, h2]
theorem tL_put1' (I : SI) (L : List Nat) (c : Nat) : st2 (st2 (tL I L) 101 L.length (nI c)) 100 3 (nI (L.length + 1)) = tL I (L ++ [c]) := by
  rw [← tL_put1]
  funext a b
  unfold st2
  by_cases h1 : a = 100 ∧ b = 3
  · rw [if_pos h1, if_neg (by omega), if_pos h1]
  · rw [if_neg h1]
    by_cases h2 : a = 101 ∧ b = L.length
    · rw [if_pos h2, if_pos h2]
    · rw [if_neg h2, if_neg h2, if_neg h1]
theorem tL_put2 (I : SI) (L : List Nat) (c d : Nat) : st2 (st2 (st2 (tL I L) 101 (L.length + 1) (nI d)) 101 L.length (nI c)) 100 3 (nI (L.length + 2)) = tL I (L ++ [c, d]) := by
  have e : L ++ [c, d] = (L ++ [c]) ++ [d] := by simp
  rw [e, ← tL_put1', ← tL_put1']
  have el : (L ++ [c]).length = L.length + 1 := by simp
  rw [el]
  funext a b
  unfold st2
  by_cases h1 : a = 100 ∧ b = 3
  · rw [if_pos h1, if_pos h1]
  · rw [if_neg h1, if_neg h1]
    by_cases h2 : a = 101 ∧ b = L.length
    · rw [if_pos h2, if_neg (by omega), if_neg h1, if_pos h2]
    · rw [if_neg h2]
      by_cases h3 : a = 101 ∧ b = L.length + 1
      · rw [if_pos h3, if_pos h3]
      · rw [if_neg h3, if_neg h3, if_neg h1, if_neg h2]
theorem tL_cpy (I : SI) (L : List Nat) (i : Nat) : st2 (st1 (tL I L) 101 (va_cpy (liC i) (tL I L 101) 0 L.length (liN i))) 100 3 (nI (L.length + liN i)) = tL I (L ++ liL i) := by
  funext a b
  unfold st2 st1 va_cpy
  by_cases h1 : a = 101
  · subst h1
    rw [if_neg (by omega), if_pos rfl]
    by_cases h2 : L.length ≤ b ∧ b < L.length + liN i
    · rw [if_pos h2]
      obtain ⟨h2, h3⟩ := h2
      have h4 : b < (L ++ liL i).length := by rw [List.length_append]; exact h3
      rw [tL_b _ _ h4]
      unfold liC
      rw [List.getD_eq_getElem?_getD, List.getD_eq_getElem?_getD, List.getElem?_append_right h2, Nat.zero_add]
    · rw [if_neg h2]
      by_cases h3 : b < L.length
      · have h4 : b < (L ++ liL i).length := by rw [List.length_append]; omega
        rw [tL_b _ _ h4, tL_b _ _ h3, List.getD_eq_getElem?_getD, List.getD_eq_getElem?_getD, List.getElem?_append_left h3]
      · have h4 : ¬ b < (L ++ liL i).length := by rw [List.length_append]; unfold liN at h2; omega
        unfold tL
        rw [if_neg (by omega), if_neg (by omega), if_neg (by omega), if_neg (by omega)]
  · by_cases h2 : a = 100 ∧ b = 3
    · rw [if_pos h2, h2.1, h2.2, tL_cnt, List.length_append]; rfl
    · rw [if_neg h2, if_neg h1]
      unfold tL
      rw [if_neg (by omega), if_neg h2, if_neg (by omega), if_neg h2]
def dsz (k : Nat) : Nat := if k < 10 then 1 else 2
def dg (k : Nat) : List Nat := if k < 10 then [48 + k] else [48 + k / 10, 48 + k % 10]
theorem ng_10 : ∀ k, k < 100 → (-(nI k) ≤ (-10 : Int32) ↔ 10 ≤ k) := by decide +kernel
theorem ng_100 : ∀ k, k < 100 → ¬ (-(nI k) ≤ (10 : Int32) * (-10)) := by decide +kernel
theorem ng_g100 : ∀ k, k < 100 → (-(nI k) : Int32) > (-100) := by decide +kernel
theorem ng_9 : ∀ k, k < 100 → (-(nI k) ≥ (-9 : Int32) ↔ k < 10) := by decide +kernel
theorem ng_ng (x : Int32) : -(-x) = x := by simp
theorem nI_dec {a : Nat} : nI (a + 1) + Int32.ofInt (-1) = nI a := by
  rw [nI_succ, Int32.add_assoc]
  have : (1 : Int32) + Int32.ofInt (-1) = 0 := by decide
  rw [this, Int32.add_zero]
theorem ec_le : ∀ m, m < 17 → nI m - nI 16 ≤ 0 := by decide +kernel

set_option maxHeartbeats 4000000 in
set_option maxRecDepth 100000 in
/-- J6_stringSize_0f7a4 -/
theorem c_J6_ss1 (l : Launch) (nW : Nat) (D : va_G) (cA : Nat → ClassId) (ad K V : Nat → Nat) (tO tT : Nat) (hi : inj nW ad) (hNW : 102 ≤ nW) (I : SI) (J : SJ) (X : SX) (sz : Nat) (k : Nat) (hk : k < 10) : Met l yJ6_stringSize_0f7a4 wsJ6_stringSize_0f7a4 ({ frames := 0, cells := 0, slots := 0, locals := 0 }) (va_Pc [.int (nI (k))] (wPreL nW D cA ad K V tO tT I J X sz)) (qI nW D cA ad sz (nI 1) I J X) 0 0 (fr nW ad sz) := by
  refine Met.ofW (cc := cJ6_stringSize_0f7a4) (maxL := 4) (ret := (some .int)) (by decide) rfl ?_
  intro p e s m args below meth c s₁ B hml hv
  obtain ⟨rfl, ⟨rfl, hP, hK⟩, hL⟩ := hv
  have hx := B.exec
  have hb := B.bytes
  have hr := B.returns
  have hts := atoms_spec (ws := wsJ6_stringSize_0f7a4) B.pre
  have hown : s.vm.findClass RJ6 = some m.cls := findClass_of_methodNamed B.named
  have hlocks := B.notSynchronized
  have hS : va_S (fr nW ad s.heap.size) s.heap s.heap [] := va_S.rf
  have hA : ∀ k, k < nW → fr nW ad s.heap.size (ad k) := fr_ad
  have hl := lv_entry ([.int (nI (k))]) (n := 4) (Nat.le_of_ble_eq_true rfl)
  rw [lg_entry_eq]
  generalize (lg_sl ([.int (nI (k))]) ++ List.replicate (4 - (lg_sl ([.int (nI (k))])).length) Slot.unset).toArray = ls at hl ⊢
  have hl : lv_has ls 4 [(0, .int (nI (k)))] := hl
  suffices Z9 : ∀ (H : Heap) (locs : List Loc), WP nW D cA ad I J X H → va_S (fr nW ad s.heap.size) s.heap H locs → W p l e (headSpec wsJ6_stringSize_0f7a4 ({ frames := 0, cells := 0, slots := 0, locals := 0 })).room s m ([.int (nI (k))] : List Value).toArray below meth c H locs 0 0 (MQ below (qI nW D cA ad s.heap.size (nI 1) I J X) ([.int (nI (k))] : List Value).toArray s 0 0 (fr nW ad s.heap.size)) (F0 m 0 ls []) from Z9 _ _ hP hS
  clear hP hS
  intro H locs hP hS
  refine lv_iconst (v := 1) hx hb dJ6_stringSize_0f7a4_0 (by decide) ?_
  refine lv_istore_n (lv' := [(1, .int (1)), (0, .int (nI (k)))]) hx hb dJ6_stringSize_0f7a4_1 rfl hl (by decide) rfl (fun ls hl => ?_)
  refine lv_iload_n hx hb dJ6_stringSize_0f7a4_2 rfl (lv_at hl 1 rfl) ?_
  refine lv_if_lt (tgt := 11) hx hb dJ6_stringSize_0f7a4_3 (by decide) (fun c3 => ?_) (fun c3 => ?_)
  · have qc3 : k < 0 := (wn_lt (a := k) (b := 0) rfl rfl (by omega) (by omega)).mp c3
    exact absurd qc3 (by omega)
  · have qc3 : ¬ k < 0 := fun z => c3 ((wn_lt (a := k) (b := 0) rfl rfl (by omega) (by omega)).mpr z)
    refine lv_iconst (v := 0) hx hb dJ6_stringSize_0f7a4_6 (by decide) ?_
    refine lv_istore_n (lv' := [(1, .int (0)), (0, .int (nI (k)))]) hx hb dJ6_stringSize_0f7a4_7 rfl hl (by decide) rfl (fun ls hl => ?_)
    refine lv_iload_n hx hb dJ6_stringSize_0f7a4_8 rfl (lv_at hl 1 rfl) ?_
    refine lv_ineg hx hb dJ6_stringSize_0f7a4_9 ?_
    refine lv_istore_n (lv' := [(0, .int (-(nI (k)))), (1, .int (0))]) hx hb dJ6_stringSize_0f7a4_10 rfl hl (by decide) rfl (fun ls hl => ?_)
    refine lv_bipush (v := (-10)) hx hb dJ6_stringSize_0f7a4_11 (by decide) ?_
    refine lv_istore_n (lv' := [(2, .int ((-10))), (0, .int (-(nI (k)))), (1, .int (0))]) hx hb dJ6_stringSize_0f7a4_13 rfl hl (by decide) rfl (fun ls hl => ?_)
    refine lv_iconst (v := 1) hx hb dJ6_stringSize_0f7a4_14 (by decide) ?_
    refine lv_istore_n (lv' := [(3, .int (1)), (2, .int ((-10))), (0, .int (-(nI (k)))), (1, .int (0))]) hx hb dJ6_stringSize_0f7a4_15 rfl hl (by decide) rfl (fun ls hl => ?_)
    refine lv_iload_n hx hb dJ6_stringSize_0f7a4_16 rfl (lv_at hl 0 rfl) ?_
    refine lv_bipush (v := 10) hx hb dJ6_stringSize_0f7a4_17 (by decide) ?_
    refine lv_icmp_ge (tgt := 42) hx hb dJ6_stringSize_0f7a4_19 (by decide) (fun c19_12 => ?_) (fun c19_12 => ?_)
    · have qc19_12 : 10 ≤ 1 := (wn_le (a := 10) (b := 1) rfl rfl (by omega) (by omega)).mp c19_12
      exact absurd qc19_12 (by omega)
    · have qc19_12 : ¬ 10 ≤ 1 := fun z => c19_12 ((wn_le (a := 10) (b := 1) rfl rfl (by omega) (by omega)).mpr z)
      refine lv_iload_n hx hb dJ6_stringSize_0f7a4_22 rfl (lv_at hl 2 rfl) ?_
      refine lv_iload_n hx hb dJ6_stringSize_0f7a4_23 rfl (lv_at hl 1 rfl) ?_
      refine lv_icmp_le (tgt := 31) hx hb dJ6_stringSize_0f7a4_24 (by decide) (fun c24 => ?_) (fun c24 => ?_)
      · exact absurd ((ng_10 k (by omega)).mp c24) (by omega)
      · refine lv_iload_n hx hb dJ6_stringSize_0f7a4_27 rfl (lv_at hl 0 rfl) ?_
        refine lv_iload_n hx hb dJ6_stringSize_0f7a4_28 rfl (lv_at hl 3 rfl) ?_
        refine w_iaddN (a := 1) (b := 0) hx hb rfl rfl dJ6_stringSize_0f7a4_29 ?_
        exact w_iret hx hb hr hlocks hK hP hS ⟨by subst_vars; rfl, by subst_vars; rfl, by subst_vars; rfl, by subst_vars; rfl⟩ dJ6_stringSize_0f7a4_30

set_option maxHeartbeats 4000000 in
set_option maxRecDepth 100000 in
/-- J6_stringSize_0f7a4 -/
theorem c_J6_ss2 (l : Launch) (nW : Nat) (D : va_G) (cA : Nat → ClassId) (ad K V : Nat → Nat) (tO tT : Nat) (hi : inj nW ad) (hNW : 102 ≤ nW) (I : SI) (J : SJ) (X : SX) (sz : Nat) (k : Nat) (hk : 10 ≤ k) (hk2 : k < 100) : Met l yJ6_stringSize_0f7a4 wsJ6_stringSize_0f7a4 ({ frames := 0, cells := 0, slots := 0, locals := 0 }) (va_Pc [.int (nI (k))] (wPreL nW D cA ad K V tO tT I J X sz)) (qI nW D cA ad sz (nI 2) I J X) 0 0 (fr nW ad sz) := by
  refine Met.ofW (cc := cJ6_stringSize_0f7a4) (maxL := 4) (ret := (some .int)) (by decide) rfl ?_
  intro p e s m args below meth c s₁ B hml hv
  obtain ⟨rfl, ⟨rfl, hP, hK⟩, hL⟩ := hv
  have hx := B.exec
  have hb := B.bytes
  have hr := B.returns
  have hts := atoms_spec (ws := wsJ6_stringSize_0f7a4) B.pre
  have hown : s.vm.findClass RJ6 = some m.cls := findClass_of_methodNamed B.named
  have hlocks := B.notSynchronized
  have hS : va_S (fr nW ad s.heap.size) s.heap s.heap [] := va_S.rf
  have hA : ∀ k, k < nW → fr nW ad s.heap.size (ad k) := fr_ad
  have hl := lv_entry ([.int (nI (k))]) (n := 4) (Nat.le_of_ble_eq_true rfl)
  rw [lg_entry_eq]
  generalize (lg_sl ([.int (nI (k))]) ++ List.replicate (4 - (lg_sl ([.int (nI (k))])).length) Slot.unset).toArray = ls at hl ⊢
  have hl : lv_has ls 4 [(0, .int (nI (k)))] := hl
  suffices Z9 : ∀ (H : Heap) (locs : List Loc), WP nW D cA ad I J X H → va_S (fr nW ad s.heap.size) s.heap H locs → W p l e (headSpec wsJ6_stringSize_0f7a4 ({ frames := 0, cells := 0, slots := 0, locals := 0 })).room s m ([.int (nI (k))] : List Value).toArray below meth c H locs 0 0 (MQ below (qI nW D cA ad s.heap.size (nI 2) I J X) ([.int (nI (k))] : List Value).toArray s 0 0 (fr nW ad s.heap.size)) (F0 m 0 ls []) from Z9 _ _ hP hS
  clear hP hS
  intro H locs hP hS
  refine lv_iconst (v := 1) hx hb dJ6_stringSize_0f7a4_0 (by decide) ?_
  refine lv_istore_n (lv' := [(1, .int (1)), (0, .int (nI (k)))]) hx hb dJ6_stringSize_0f7a4_1 rfl hl (by decide) rfl (fun ls hl => ?_)
  refine lv_iload_n hx hb dJ6_stringSize_0f7a4_2 rfl (lv_at hl 1 rfl) ?_
  refine lv_if_lt (tgt := 11) hx hb dJ6_stringSize_0f7a4_3 (by decide) (fun c3 => ?_) (fun c3 => ?_)
  · have qc3 : k < 0 := (wn_lt (a := k) (b := 0) rfl rfl (by omega) (by omega)).mp c3
    exact absurd qc3 (by omega)
  · have qc3 : ¬ k < 0 := fun z => c3 ((wn_lt (a := k) (b := 0) rfl rfl (by omega) (by omega)).mpr z)
    refine lv_iconst (v := 0) hx hb dJ6_stringSize_0f7a4_6 (by decide) ?_
    refine lv_istore_n (lv' := [(1, .int (0)), (0, .int (nI (k)))]) hx hb dJ6_stringSize_0f7a4_7 rfl hl (by decide) rfl (fun ls hl => ?_)
    refine lv_iload_n hx hb dJ6_stringSize_0f7a4_8 rfl (lv_at hl 1 rfl) ?_
    refine lv_ineg hx hb dJ6_stringSize_0f7a4_9 ?_
    refine lv_istore_n (lv' := [(0, .int (-(nI (k)))), (1, .int (0))]) hx hb dJ6_stringSize_0f7a4_10 rfl hl (by decide) rfl (fun ls hl => ?_)
    refine lv_bipush (v := (-10)) hx hb dJ6_stringSize_0f7a4_11 (by decide) ?_
    refine lv_istore_n (lv' := [(2, .int ((-10))), (0, .int (-(nI (k)))), (1, .int (0))]) hx hb dJ6_stringSize_0f7a4_13 rfl hl (by decide) rfl (fun ls hl => ?_)
    refine lv_iconst (v := 1) hx hb dJ6_stringSize_0f7a4_14 (by decide) ?_
    refine lv_istore_n (lv' := [(3, .int (1)), (2, .int ((-10))), (0, .int (-(nI (k)))), (1, .int (0))]) hx hb dJ6_stringSize_0f7a4_15 rfl hl (by decide) rfl (fun ls hl => ?_)
    refine lv_iload_n hx hb dJ6_stringSize_0f7a4_16 rfl (lv_at hl 0 rfl) ?_
    refine lv_bipush (v := 10) hx hb dJ6_stringSize_0f7a4_17 (by decide) ?_
    refine lv_icmp_ge (tgt := 42) hx hb dJ6_stringSize_0f7a4_19 (by decide) (fun c19_12 => ?_) (fun c19_12 => ?_)
    · have qc19_12 : 10 ≤ 1 := (wn_le (a := 10) (b := 1) rfl rfl (by omega) (by omega)).mp c19_12
      exact absurd qc19_12 (by omega)
    · have qc19_12 : ¬ 10 ≤ 1 := fun z => c19_12 ((wn_le (a := 10) (b := 1) rfl rfl (by omega) (by omega)).mpr z)
      refine lv_iload_n hx hb dJ6_stringSize_0f7a4_22 rfl (lv_at hl 2 rfl) ?_
      refine lv_iload_n hx hb dJ6_stringSize_0f7a4_23 rfl (lv_at hl 1 rfl) ?_
      refine lv_icmp_le (tgt := 31) hx hb dJ6_stringSize_0f7a4_24 (by decide) (fun c24 => ?_) (fun c24 => ?_)
      · refine lv_bipush (v := 10) hx hb dJ6_stringSize_0f7a4_31 (by decide) ?_
        refine lv_iload_n hx hb dJ6_stringSize_0f7a4_33 rfl (lv_at hl 1 rfl) ?_
        refine lv_imul hx hb dJ6_stringSize_0f7a4_34 ?_
        refine lv_istore_n (lv' := [(2, .int (10 * (-10))), (3, .int (1)), (0, .int (-(nI (k)))), (1, .int (0))]) hx hb dJ6_stringSize_0f7a4_35 rfl hl (by decide) rfl (fun ls hl => ?_)
        refine lv_iinc (v := nI (1 + 1)) (lv' := [(3, .int (nI (1 + 1))), (2, .int (10 * (-10))), (0, .int (-(nI (k)))), (1, .int (0))]) hx hb dJ6_stringSize_0f7a4_36 hl (k := 1) rfl (wn_inc rfl) (by decide) rfl (fun ls hl => ?_)
        refine lv_goto (tgt := 16) hx hb dJ6_stringSize_0f7a4_39 (by decide) ?_
        refine lv_iload_n hx hb dJ6_stringSize_0f7a4_16 rfl (lv_at hl 0 rfl) ?_
        refine lv_bipush (v := 10) hx hb dJ6_stringSize_0f7a4_17 (by decide) ?_
        refine lv_icmp_ge (tgt := 42) hx hb dJ6_stringSize_0f7a4_19 (by decide) (fun c19_8 => ?_) (fun c19_8 => ?_)
        · have qc19_8 : 10 ≤ (1 + 1) := (wn_le (a := 10) (b := (1 + 1)) rfl rfl (by omega) (by omega)).mp c19_8
          exact absurd qc19_8 (by omega)
        · have qc19_8 : ¬ 10 ≤ (1 + 1) := fun z => c19_8 ((wn_le (a := 10) (b := (1 + 1)) rfl rfl (by omega) (by omega)).mpr z)
          refine lv_iload_n hx hb dJ6_stringSize_0f7a4_22 rfl (lv_at hl 2 rfl) ?_
          refine lv_iload_n hx hb dJ6_stringSize_0f7a4_23 rfl (lv_at hl 1 rfl) ?_
          refine lv_icmp_le (tgt := 31) hx hb dJ6_stringSize_0f7a4_24 (by decide) (fun c25 => ?_) (fun c25 => ?_)
          · exact absurd c25 (ng_100 k (by omega))
          · refine lv_iload_n hx hb dJ6_stringSize_0f7a4_27 rfl (lv_at hl 0 rfl) ?_
            refine lv_iload_n hx hb dJ6_stringSize_0f7a4_28 rfl (lv_at hl 3 rfl) ?_
            refine w_iaddN (a := (1 + 1)) (b := 0) hx hb rfl rfl dJ6_stringSize_0f7a4_29 ?_
            exact w_iret hx hb hr hlocks hK hP hS ⟨by subst_vars; rfl, by subst_vars; rfl, by subst_vars; rfl, by subst_vars; rfl⟩ dJ6_stringSize_0f7a4_30
      · exact absurd ((ng_10 k (by omega)).mpr hk) c24

theorem c_J6_ss (l : Launch) (nW : Nat) (D : va_G) (cA : Nat → ClassId) (ad K V : Nat → Nat) (tO tT : Nat) (hi : inj nW ad) (hNW : 102 ≤ nW) (I : SI) (J : SJ) (X : SX) (sz : Nat) (k : Nat) (hk : k < 100) : Met l yJ6_stringSize_0f7a4 wsJ6_stringSize_0f7a4 ({ frames := 0, cells := 0, slots := 0, locals := 0 }) (va_Pc [.int (nI (k))] (wPreL nW D cA ad K V tO tT I J X sz)) (qI nW D cA ad sz (nI (dsz k)) I J X) 0 0 (fr nW ad sz) := by
  unfold dsz
  by_cases h : k < 10
  · rw [if_pos h]; exact c_J6_ss1 l nW D cA ad K V tO tT hi hNW I J X sz k h
  · rw [if_neg h]; exact c_J6_ss2 l nW D cA ad K V tO tT hi hNW I J X sz k (by omega) hk

set_option maxHeartbeats 4000000 in
set_option maxRecDepth 100000 in
/-- J6_getChars_ba4f3 -/
theorem c_J6_gc1 (l : Launch) (nW : Nat) (D : va_G) (cA : Nat → ClassId) (ad K V : Nat → Nat) (tO tT : Nat) (hi : inj nW ad) (hNW : 102 ≤ nW) (I : SI) (J : SJ) (X : SX) (sz : Nat) (k n : Nat) (hk : k < 10) (hn : n < 16) : Met l yJ6_getChars_ba4f3 wsJ6_getChars_ba4f3 ({ frames := 0, cells := 0, slots := 0, locals := 0 }) (va_Pc [.int (nI (k)), .int (nI (n + 1)), .ref (ad 101)] (wPreL nW D cA ad K V tO tT I J X sz)) (qI nW D cA ad sz (nI n) (st2 I 101 n (nI (48 + k % 10))) J X) 0 0 (fr nW ad sz) := by
  refine Met.ofW (cc := cJ6_getChars_ba4f3) (maxL := 7) (ret := (some .int)) (by decide) rfl ?_
  intro p e s m args below meth c s₁ B hml hv
  obtain ⟨rfl, ⟨rfl, hP, hK⟩, hL⟩ := hv
  have hx := B.exec
  have hb := B.bytes
  have hr := B.returns
  have hts := atoms_spec (ws := wsJ6_getChars_ba4f3) B.pre
  have hown : s.vm.findClass RJ6 = some m.cls := findClass_of_methodNamed B.named
  have hlocks := B.notSynchronized
  have hS : va_S (fr nW ad s.heap.size) s.heap s.heap [] := va_S.rf
  have hA : ∀ k, k < nW → fr nW ad s.heap.size (ad k) := fr_ad
  have hl := lv_entry ([.int (nI (k)), .int (nI (n + 1)), .ref (ad 101)]) (n := 7) (Nat.le_of_ble_eq_true rfl)
  rw [lg_entry_eq]
  generalize (lg_sl ([.int (nI (k)), .int (nI (n + 1)), .ref (ad 101)]) ++ List.replicate (7 - (lg_sl ([.int (nI (k)), .int (nI (n + 1)), .ref (ad 101)])).length) Slot.unset).toArray = ls at hl ⊢
  have hl : lv_has ls 7 [(0, .int (nI (k))), (1, .int (nI (n + 1))), (2, .ref (ad 101))] := hl
  suffices Z9 : ∀ (H : Heap) (locs : List Loc), WP nW D cA ad I J X H → va_S (fr nW ad s.heap.size) s.heap H locs → W p l e (headSpec wsJ6_getChars_ba4f3 ({ frames := 0, cells := 0, slots := 0, locals := 0 })).room s m ([.int (nI (k)), .int (nI (n + 1)), .ref (ad 101)] : List Value).toArray below meth c H locs 0 0 (MQ below (qI nW D cA ad s.heap.size (nI n) (st2 I 101 n (nI (48 + k % 10))) J X) ([.int (nI (k)), .int (nI (n + 1)), .ref (ad 101)] : List Value).toArray s 0 0 (fr nW ad s.heap.size)) (F0 m 0 ls []) from Z9 _ _ hP hS
  clear hP hS
  intro H locs hP hS
  refine lv_iload_n hx hb dJ6_getChars_ba4f3_0 rfl (lv_at hl 1 rfl) ?_
  refine lv_istore (lv' := [(5, .int (nI (n + 1))), (0, .int (nI (k))), (1, .int (nI (n + 1))), (2, .ref (ad 101))]) hx hb dJ6_getChars_ba4f3_1 hl (by decide) rfl (fun ls hl => ?_)
  refine lv_iload_n hx hb dJ6_getChars_ba4f3_3 rfl (lv_at hl 1 rfl) ?_
  refine lv_if_ge (tgt := 11) hx hb dJ6_getChars_ba4f3_4 (by decide) (fun c4 => ?_) (fun c4 => ?_)
  · have qc4 : 0 ≤ k := (wn_le (a := 0) (b := k) rfl rfl (by omega) (by omega)).mp c4
    refine lv_iconst (v := 0) hx hb dJ6_getChars_ba4f3_11 (by decide) ?_
    refine lv_istore (lv' := [(6, .int (0)), (5, .int (nI (n + 1))), (0, .int (nI (k))), (1, .int (nI (n + 1))), (2, .ref (ad 101))]) hx hb dJ6_getChars_ba4f3_12 hl (by decide) rfl (fun ls hl => ?_)
    refine lv_iload hx hb dJ6_getChars_ba4f3_14 (lv_at hl 0 rfl) ?_
    refine lv_if_ne (tgt := 22) hx hb dJ6_getChars_ba4f3_16 (by decide) (fun c16 => ?_) (fun c16 => ?_)
    · have qc16 : ¬ 0 = 0 := fun z => c16 ((wn_eq (a := 0) (b := 0) rfl rfl (by omega) (by omega)).mpr z)
      exact absurd qc16 (by omega)
    · have qc16 : 0 = 0 := (wn_eq (a := 0) (b := 0) rfl rfl (by omega) (by omega)).mp c16
      refine lv_iload_n hx hb dJ6_getChars_ba4f3_19 rfl (lv_at hl 2 rfl) ?_
      refine lv_ineg hx hb dJ6_getChars_ba4f3_20 ?_
      refine lv_istore_n (lv' := [(0, .int (-(nI (k)))), (6, .int (0)), (5, .int (nI (n + 1))), (1, .int (nI (n + 1))), (2, .ref (ad 101))]) hx hb dJ6_getChars_ba4f3_21 rfl hl (by decide) rfl (fun ls hl => ?_)
      refine lv_iload_n hx hb dJ6_getChars_ba4f3_22 rfl (lv_at hl 0 rfl) ?_
      refine lv_bipush (v := (-100)) hx hb dJ6_getChars_ba4f3_23 (by decide) ?_
      refine lv_icmp_gt (tgt := 72) hx hb dJ6_getChars_ba4f3_25 (by decide) (fun c25 => ?_) (fun c25 => ?_)
      · refine lv_aload_n hx hb dJ6_getChars_ba4f3_72 rfl (lv_at hl 4 rfl) ?_
        refine lv_iinc (v := nI (n)) (lv' := [(5, .int (nI (n))), (0, .int (-(nI (k)))), (6, .int (0)), (1, .int (nI (n + 1))), (2, .ref (ad 101))]) hx hb dJ6_getChars_ba4f3_73 hl (k := 2) rfl nI_dec (by decide) rfl (fun ls hl => ?_)
        refine lv_iload hx hb dJ6_getChars_ba4f3_76 (lv_at hl 0 rfl) ?_
        refine va_gets hx hb (hL.2.2.1.1) hS hown (hts (.fieldLink RJ6 83 "java/lang/Integer" "DigitOnes" "[B") (List.mem_of_getElem? (i := 1) rfl)) (fun _ h9 => h9) dJ6_getChars_ba4f3_78 ?_
        refine lv_iload_n hx hb dJ6_getChars_ba4f3_81 rfl (lv_at hl 1 rfl) ?_
        refine lv_ineg hx hb dJ6_getChars_ba4f3_82 ?_
        refine w_topN (a := k) (ng_ng _) ?_
        refine va_tb (v := .int (nI (48 + (k) % 10))) hx hb hL.2.2.1.2 hS (by rw [show nI (k) = nI (k) from rfl]; exact vp_in_nI (N := 100) (by omega) (by omega)) (by rw [show nI (k) = nI (k) from rfl, nI_clamp (by omega)]) dJ6_getChars_ba4f3_83 ?_
        refine w_bast (v := nI (48 + (k) % 10)) (w := nI (48 + (k) % 10)) hx hb hK hP hi hA hS (by omega) (n) (by omega) rfl (by rw [show nI (48 + (k) % 10) = nI (48 + (k) % 10) from rfl]; exact nI_n8 _ (by omega)) dJ6_getChars_ba4f3_84 (fun H locs hP hS => ?_)
        obtain ⟨I_1, eI_1⟩ : ∃ y, y = st2 I 101 (n) (nI (48 + (k) % 10)) := ⟨_, rfl⟩
        have hP : WP nW D cA ad I_1 J X H := by rw [eI_1]; exact hP
        refine lv_iload_n hx hb dJ6_getChars_ba4f3_85 rfl (lv_at hl 1 rfl) ?_
        refine lv_bipush (v := (-9)) hx hb dJ6_getChars_ba4f3_86 (by decide) ?_
        refine lv_icmp_ge (tgt := 104) hx hb dJ6_getChars_ba4f3_88 (by decide) (fun c88 => ?_) (fun c88 => ?_)
        · refine lv_iload hx hb dJ6_getChars_ba4f3_104 (lv_at hl 2 rfl) ?_
          refine lv_if_eq (tgt := 118) hx hb dJ6_getChars_ba4f3_106 (by decide) (fun c106 => ?_) (fun c106 => ?_)
          · have qc106 : 0 = 0 := (wn_eq (a := 0) (b := 0) rfl rfl (by omega) (by omega)).mp c106
            refine lv_iload hx hb dJ6_getChars_ba4f3_118 (lv_at hl 0 rfl) ?_
            exact w_iret hx hb hr hlocks hK hP hS ⟨by subst_vars; rfl, by subst_vars; rfl, by subst_vars; rfl, by subst_vars; rfl⟩ dJ6_getChars_ba4f3_120
          · have qc106 : ¬ 0 = 0 := fun z => c106 ((wn_eq (a := 0) (b := 0) rfl rfl (by omega) (by omega)).mpr z)
            exact absurd qc106 (by omega)
        · exact absurd ((ng_9 k (by omega)).mpr hk) c88
      · exact absurd (ng_g100 k (by omega)) c25
  · have qc4 : ¬ 0 ≤ k := fun z => c4 ((wn_le (a := 0) (b := k) rfl rfl (by omega) (by omega)).mpr z)
    exact absurd qc4 (by omega)

set_option maxHeartbeats 4000000 in
set_option maxRecDepth 100000 in
/-- J6_getChars_ba4f3 -/
theorem c_J6_gc2 (l : Launch) (nW : Nat) (D : va_G) (cA : Nat → ClassId) (ad K V : Nat → Nat) (tO tT : Nat) (hi : inj nW ad) (hNW : 102 ≤ nW) (I : SI) (J : SJ) (X : SX) (sz : Nat) (k n : Nat) (hk : 10 ≤ k) (hk2 : k < 100) (hn : n + 1 < 16) : Met l yJ6_getChars_ba4f3 wsJ6_getChars_ba4f3 ({ frames := 0, cells := 0, slots := 0, locals := 0 }) (va_Pc [.int (nI (k)), .int (nI (n + 1 + 1)), .ref (ad 101)] (wPreL nW D cA ad K V tO tT I J X sz)) (qI nW D cA ad sz (nI n) (st2 (st2 I 101 (n + 1) (nI (48 + k % 10))) 101 n (nI (48 + k / 10))) J X) 0 0 (fr nW ad sz) := by
  refine Met.ofW (cc := cJ6_getChars_ba4f3) (maxL := 7) (ret := (some .int)) (by decide) rfl ?_
  intro p e s m args below meth c s₁ B hml hv
  obtain ⟨rfl, ⟨rfl, hP, hK⟩, hL⟩ := hv
  have hx := B.exec
  have hb := B.bytes
  have hr := B.returns
  have hts := atoms_spec (ws := wsJ6_getChars_ba4f3) B.pre
  have hown : s.vm.findClass RJ6 = some m.cls := findClass_of_methodNamed B.named
  have hlocks := B.notSynchronized
  have hS : va_S (fr nW ad s.heap.size) s.heap s.heap [] := va_S.rf
  have hA : ∀ k, k < nW → fr nW ad s.heap.size (ad k) := fr_ad
  have hl := lv_entry ([.int (nI (k)), .int (nI (n + 1 + 1)), .ref (ad 101)]) (n := 7) (Nat.le_of_ble_eq_true rfl)
  rw [lg_entry_eq]
  generalize (lg_sl ([.int (nI (k)), .int (nI (n + 1 + 1)), .ref (ad 101)]) ++ List.replicate (7 - (lg_sl ([.int (nI (k)), .int (nI (n + 1 + 1)), .ref (ad 101)])).length) Slot.unset).toArray = ls at hl ⊢
  have hl : lv_has ls 7 [(0, .int (nI (k))), (1, .int (nI (n + 1 + 1))), (2, .ref (ad 101))] := hl
  suffices Z9 : ∀ (H : Heap) (locs : List Loc), WP nW D cA ad I J X H → va_S (fr nW ad s.heap.size) s.heap H locs → W p l e (headSpec wsJ6_getChars_ba4f3 ({ frames := 0, cells := 0, slots := 0, locals := 0 })).room s m ([.int (nI (k)), .int (nI (n + 1 + 1)), .ref (ad 101)] : List Value).toArray below meth c H locs 0 0 (MQ below (qI nW D cA ad s.heap.size (nI n) (st2 (st2 I 101 (n + 1) (nI (48 + k % 10))) 101 n (nI (48 + k / 10))) J X) ([.int (nI (k)), .int (nI (n + 1 + 1)), .ref (ad 101)] : List Value).toArray s 0 0 (fr nW ad s.heap.size)) (F0 m 0 ls []) from Z9 _ _ hP hS
  clear hP hS
  intro H locs hP hS
  refine lv_iload_n hx hb dJ6_getChars_ba4f3_0 rfl (lv_at hl 1 rfl) ?_
  refine lv_istore (lv' := [(5, .int (nI (n + 1 + 1))), (0, .int (nI (k))), (1, .int (nI (n + 1 + 1))), (2, .ref (ad 101))]) hx hb dJ6_getChars_ba4f3_1 hl (by decide) rfl (fun ls hl => ?_)
  refine lv_iload_n hx hb dJ6_getChars_ba4f3_3 rfl (lv_at hl 1 rfl) ?_
  refine lv_if_ge (tgt := 11) hx hb dJ6_getChars_ba4f3_4 (by decide) (fun c4 => ?_) (fun c4 => ?_)
  · have qc4 : 0 ≤ k := (wn_le (a := 0) (b := k) rfl rfl (by omega) (by omega)).mp c4
    refine lv_iconst (v := 0) hx hb dJ6_getChars_ba4f3_11 (by decide) ?_
    refine lv_istore (lv' := [(6, .int (0)), (5, .int (nI (n + 1 + 1))), (0, .int (nI (k))), (1, .int (nI (n + 1 + 1))), (2, .ref (ad 101))]) hx hb dJ6_getChars_ba4f3_12 hl (by decide) rfl (fun ls hl => ?_)
    refine lv_iload hx hb dJ6_getChars_ba4f3_14 (lv_at hl 0 rfl) ?_
    refine lv_if_ne (tgt := 22) hx hb dJ6_getChars_ba4f3_16 (by decide) (fun c16 => ?_) (fun c16 => ?_)
    · have qc16 : ¬ 0 = 0 := fun z => c16 ((wn_eq (a := 0) (b := 0) rfl rfl (by omega) (by omega)).mpr z)
      exact absurd qc16 (by omega)
    · have qc16 : 0 = 0 := (wn_eq (a := 0) (b := 0) rfl rfl (by omega) (by omega)).mp c16
      refine lv_iload_n hx hb dJ6_getChars_ba4f3_19 rfl (lv_at hl 2 rfl) ?_
      refine lv_ineg hx hb dJ6_getChars_ba4f3_20 ?_
      refine lv_istore_n (lv' := [(0, .int (-(nI (k)))), (6, .int (0)), (5, .int (nI (n + 1 + 1))), (1, .int (nI (n + 1 + 1))), (2, .ref (ad 101))]) hx hb dJ6_getChars_ba4f3_21 rfl hl (by decide) rfl (fun ls hl => ?_)
      refine lv_iload_n hx hb dJ6_getChars_ba4f3_22 rfl (lv_at hl 0 rfl) ?_
      refine lv_bipush (v := (-100)) hx hb dJ6_getChars_ba4f3_23 (by decide) ?_
      refine lv_icmp_gt (tgt := 72) hx hb dJ6_getChars_ba4f3_25 (by decide) (fun c25 => ?_) (fun c25 => ?_)
      · refine lv_aload_n hx hb dJ6_getChars_ba4f3_72 rfl (lv_at hl 4 rfl) ?_
        refine lv_iinc (v := nI (n + 1)) (lv' := [(5, .int (nI (n + 1))), (0, .int (-(nI (k)))), (6, .int (0)), (1, .int (nI (n + 1 + 1))), (2, .ref (ad 101))]) hx hb dJ6_getChars_ba4f3_73 hl (k := 2) rfl nI_dec (by decide) rfl (fun ls hl => ?_)
        refine lv_iload hx hb dJ6_getChars_ba4f3_76 (lv_at hl 0 rfl) ?_
        refine va_gets hx hb (hL.2.2.1.1) hS hown (hts (.fieldLink RJ6 83 "java/lang/Integer" "DigitOnes" "[B") (List.mem_of_getElem? (i := 1) rfl)) (fun _ h9 => h9) dJ6_getChars_ba4f3_78 ?_
        refine lv_iload_n hx hb dJ6_getChars_ba4f3_81 rfl (lv_at hl 1 rfl) ?_
        refine lv_ineg hx hb dJ6_getChars_ba4f3_82 ?_
        refine w_topN (a := k) (ng_ng _) ?_
        refine va_tb (v := .int (nI (48 + (k) % 10))) hx hb hL.2.2.1.2 hS (by rw [show nI (k) = nI (k) from rfl]; exact vp_in_nI (N := 100) (by omega) (by omega)) (by rw [show nI (k) = nI (k) from rfl, nI_clamp (by omega)]) dJ6_getChars_ba4f3_83 ?_
        refine w_bast (v := nI (48 + (k) % 10)) (w := nI (48 + (k) % 10)) hx hb hK hP hi hA hS (by omega) (n + 1) (by omega) rfl (by rw [show nI (48 + (k) % 10) = nI (48 + (k) % 10) from rfl]; exact nI_n8 _ (by omega)) dJ6_getChars_ba4f3_84 (fun H locs hP hS => ?_)
        obtain ⟨I_1, eI_1⟩ : ∃ y, y = st2 I 101 (n + 1) (nI (48 + (k) % 10)) := ⟨_, rfl⟩
        have hP : WP nW D cA ad I_1 J X H := by rw [eI_1]; exact hP
        refine lv_iload_n hx hb dJ6_getChars_ba4f3_85 rfl (lv_at hl 1 rfl) ?_
        refine lv_bipush (v := (-9)) hx hb dJ6_getChars_ba4f3_86 (by decide) ?_
        refine lv_icmp_ge (tgt := 104) hx hb dJ6_getChars_ba4f3_88 (by decide) (fun c88 => ?_) (fun c88 => ?_)
        · exact absurd ((ng_9 k (by omega)).mp c88) (by omega)
        · refine lv_aload_n hx hb dJ6_getChars_ba4f3_91 rfl (lv_at hl 4 rfl) ?_
          refine lv_iinc (v := nI (n)) (lv' := [(5, .int (nI (n))), (0, .int (-(nI (k)))), (6, .int (0)), (1, .int (nI (n + 1 + 1))), (2, .ref (ad 101))]) hx hb dJ6_getChars_ba4f3_92 hl (k := 0) rfl nI_dec (by decide) rfl (fun ls hl => ?_)
          refine lv_iload hx hb dJ6_getChars_ba4f3_95 (lv_at hl 0 rfl) ?_
          refine va_gets hx hb (hL.2.2.2.1.1) hS hown (hts (.fieldLink RJ6 87 "java/lang/Integer" "DigitTens" "[B") (List.mem_of_getElem? (i := 2) rfl)) (fun _ h9 => h9) dJ6_getChars_ba4f3_97 ?_
          refine lv_iload_n hx hb dJ6_getChars_ba4f3_100 rfl (lv_at hl 1 rfl) ?_
          refine lv_ineg hx hb dJ6_getChars_ba4f3_101 ?_
          refine w_topN (a := k) (ng_ng _) ?_
          refine va_tb (v := .int (nI (48 + (k) / 10))) hx hb hL.2.2.2.1.2 hS (by rw [show nI (k) = nI (k) from rfl]; exact vp_in_nI (N := 100) (by omega) (by omega)) (by rw [show nI (k) = nI (k) from rfl, nI_clamp (by omega)]) dJ6_getChars_ba4f3_102 ?_
          refine w_bast (v := nI (48 + (k) / 10)) (w := nI (48 + (k) / 10)) hx hb hK hP hi hA hS (by omega) (n) (by omega) rfl (by rw [show nI (48 + (k) / 10) = nI (48 + (k) / 10) from rfl]; exact nI_n8 _ (by omega)) dJ6_getChars_ba4f3_103 (fun H locs hP hS => ?_)
          obtain ⟨I_2, eI_2⟩ : ∃ y, y = st2 I_1 101 (n) (nI (48 + (k) / 10)) := ⟨_, rfl⟩
          have hP : WP nW D cA ad I_2 J X H := by rw [eI_2]; exact hP
          refine lv_iload hx hb dJ6_getChars_ba4f3_104 (lv_at hl 2 rfl) ?_
          refine lv_if_eq (tgt := 118) hx hb dJ6_getChars_ba4f3_106 (by decide) (fun c106 => ?_) (fun c106 => ?_)
          · have qc106 : 0 = 0 := (wn_eq (a := 0) (b := 0) rfl rfl (by omega) (by omega)).mp c106
            refine lv_iload hx hb dJ6_getChars_ba4f3_118 (lv_at hl 0 rfl) ?_
            exact w_iret hx hb hr hlocks hK hP hS ⟨by subst_vars; rfl, by subst_vars; rfl, by subst_vars; rfl, by subst_vars; rfl⟩ dJ6_getChars_ba4f3_120
          · have qc106 : ¬ 0 = 0 := fun z => c106 ((wn_eq (a := 0) (b := 0) rfl rfl (by omega) (by omega)).mpr z)
            exact absurd qc106 (by omega)
      · exact absurd (ng_g100 k (by omega)) c25
  · have qc4 : ¬ 0 ≤ k := fun z => c4 ((wn_le (a := 0) (b := k) rfl rfl (by omega) (by omega)).mpr z)
    exact absurd qc4 (by omega)

theorem inJ5_ensureCapacityInternal_d00df_J4 : ∀ w ∈ wsJ40, w ∈ wsJ5_ensureCapacityInternal_d00df := by decide +kernel
set_option maxHeartbeats 4000000 in
set_option maxRecDepth 100000 in
/-- J5_ensureCapacityInternal_d00df -/
theorem c_J5_ensureCapacityInternal_d00df (l : Launch) (nW : Nat) (D : va_G) (cA : Nat → ClassId) (ad K V : Nat → Nat) (tO tT : Nat) (hi : inj nW ad) (hNW : 102 ≤ nW) (I : SI) (J : SJ) (X : SX) (sz : Nat) (z : Nat) (hm : z < 17) (hc : I 100 1 = 0) : Met l yJ5_ensureCapacityInternal_d00df wsJ5_ensureCapacityInternal_d00df ({ frames := 0, cells := 0, slots := 0, locals := 0 }) (va_Pc [.ref (ad 100), .int (nI (z))] (wPreL nW D cA ad K V tO tT I J X sz)) (qV nW D cA ad sz I J X) 0 0 (fr nW ad sz) := by
  refine Met.ofW (cc := cJ5_ensureCapacityInternal_d00df) (maxL := 3) (ret := none) (by decide) rfl ?_
  intro p e s m args below meth c s₁ B hml hv
  obtain ⟨rfl, ⟨rfl, hP, hK⟩, hL⟩ := hv
  have hx := B.exec
  have hb := B.bytes
  have hr := B.returns
  have hts := atoms_spec (ws := wsJ5_ensureCapacityInternal_d00df) B.pre
  have hown : s.vm.findClass RJ5 = some m.cls := findClass_of_methodNamed B.named
  have hlocks := B.notSynchronized
  have hS : va_S (fr nW ad s.heap.size) s.heap s.heap [] := va_S.rf
  have hA : ∀ k, k < nW → fr nW ad s.heap.size (ad k) := fr_ad
  have hl := lv_entry ([.ref (ad 100), .int (nI (z))]) (n := 3) (Nat.le_of_ble_eq_true rfl)
  rw [lg_entry_eq]
  generalize (lg_sl ([.ref (ad 100), .int (nI (z))]) ++ List.replicate (3 - (lg_sl ([.ref (ad 100), .int (nI (z))])).length) Slot.unset).toArray = ls at hl ⊢
  have hl : lv_has ls 3 [(0, .ref (ad 100)), (1, .int (nI (z)))] := hl
  suffices Z9 : ∀ (H : Heap) (locs : List Loc), WP nW D cA ad I J X H → va_S (fr nW ad s.heap.size) s.heap H locs → W p l e (headSpec wsJ5_ensureCapacityInternal_d00df ({ frames := 0, cells := 0, slots := 0, locals := 0 })).room s m ([.ref (ad 100), .int (nI (z))] : List Value).toArray below meth c H locs 0 0 (MQ below (qV nW D cA ad s.heap.size I J X) ([.ref (ad 100), .int (nI (z))] : List Value).toArray s 0 0 (fr nW ad s.heap.size)) (F0 m 0 ls []) from Z9 _ _ hP hS
  clear hP hS
  intro H locs hP hS
  refine lv_aload_n hx hb dJ5_ensureCapacityInternal_d00df_0 rfl (lv_at hl 0 rfl) ?_
  refine w_lget (v := .ref (ad 101)) hx hb hts inJ5_ensureCapacityInternal_d00df_J4 hown hK hP (by omega) 0 (by decide) rfl (List.mem_of_getElem? (i := 1) rfl) (fun _ h9 => h9) dJ5_ensureCapacityInternal_d00df_1 ?_
  refine w_alen hx hb hK hP (by omega) dJ5_ensureCapacityInternal_d00df_4 ?_
  refine lv_aload_n hx hb dJ5_ensureCapacityInternal_d00df_5 rfl (lv_at hl 0 rfl) ?_
  refine w_lget (v := .int (I 100 1)) hx hb hts inJ5_ensureCapacityInternal_d00df_J4 hown hK hP (by omega) 1 (by decide) rfl (List.mem_of_getElem? (i := 2) rfl) (fun _ h9 => h9) dJ5_ensureCapacityInternal_d00df_6 ?_
  refine w_topN (a := 0) hc ?_
  refine lv_ishr hx hb dJ5_ensureCapacityInternal_d00df_9 ?_
  refine w_topN (a := 16) ((sh_r0 _).trans rfl) ?_
  refine lv_istore_n (lv' := [(2, .int (nI (16))), (0, .ref (ad 100)), (1, .int (nI (z)))]) hx hb dJ5_ensureCapacityInternal_d00df_10 rfl hl (by decide) rfl (fun ls hl => ?_)
  refine lv_iload_n hx hb dJ5_ensureCapacityInternal_d00df_11 rfl (lv_at hl 2 rfl) ?_
  refine lv_iload_n hx hb dJ5_ensureCapacityInternal_d00df_12 rfl (lv_at hl 0 rfl) ?_
  refine lv_isub hx hb dJ5_ensureCapacityInternal_d00df_13 ?_
  refine lv_if_le (tgt := 38) hx hb dJ5_ensureCapacityInternal_d00df_14 (by decide) (fun c14 => ?_) (fun c14 => ?_)
  · exact w_vret hx hb hr hlocks hK hP hS ⟨by subst_vars; rfl, by subst_vars; rfl, by subst_vars; rfl⟩ dJ5_ensureCapacityInternal_d00df_38
  · exact absurd (ec_le z hm) c14

theorem inJ5_isLatin1_aae02_J4 : ∀ w ∈ wsJ40, w ∈ wsJ5_isLatin1_aae02 := by decide +kernel
set_option maxHeartbeats 4000000 in
set_option maxRecDepth 100000 in
/-- J5_isLatin1_aae02 -/
theorem c_J5_isLatin1_aae02 (l : Launch) (nW : Nat) (D : va_G) (cA : Nat → ClassId) (ad K V : Nat → Nat) (tO tT : Nat) (hi : inj nW ad) (hNW : 102 ≤ nW) (I : SI) (J : SJ) (X : SX) (sz : Nat) (hc : I 100 1 = 0) : Met l yJ5_isLatin1_aae02 wsJ5_isLatin1_aae02 ({ frames := 0, cells := 0, slots := 0, locals := 0 }) (va_Pc [.ref (ad 100)] (wPreL nW D cA ad K V tO tT I J X sz)) (qI nW D cA ad sz (1) I J X) 0 0 (fr nW ad sz) := by
  refine Met.ofW (cc := cJ5_isLatin1_aae02) (maxL := 1) (ret := (some .boolean)) (by decide) rfl ?_
  intro p e s m args below meth c s₁ B hml hv
  obtain ⟨rfl, ⟨rfl, hP, hK⟩, hL⟩ := hv
  have hx := B.exec
  have hb := B.bytes
  have hr := B.returns
  have hts := atoms_spec (ws := wsJ5_isLatin1_aae02) B.pre
  have hown : s.vm.findClass RJ5 = some m.cls := findClass_of_methodNamed B.named
  have hlocks := B.notSynchronized
  have hS : va_S (fr nW ad s.heap.size) s.heap s.heap [] := va_S.rf
  have hA : ∀ k, k < nW → fr nW ad s.heap.size (ad k) := fr_ad
  have hl := lv_entry ([.ref (ad 100)]) (n := 1) (Nat.le_of_ble_eq_true rfl)
  rw [lg_entry_eq]
  generalize (lg_sl ([.ref (ad 100)]) ++ List.replicate (1 - (lg_sl ([.ref (ad 100)])).length) Slot.unset).toArray = ls at hl ⊢
  have hl : lv_has ls 1 [(0, .ref (ad 100))] := hl
  suffices Z9 : ∀ (H : Heap) (locs : List Loc), WP nW D cA ad I J X H → va_S (fr nW ad s.heap.size) s.heap H locs → W p l e (headSpec wsJ5_isLatin1_aae02 ({ frames := 0, cells := 0, slots := 0, locals := 0 })).room s m ([.ref (ad 100)] : List Value).toArray below meth c H locs 0 0 (MQ below (qI nW D cA ad s.heap.size (1) I J X) ([.ref (ad 100)] : List Value).toArray s 0 0 (fr nW ad s.heap.size)) (F0 m 0 ls []) from Z9 _ _ hP hS
  clear hP hS
  intro H locs hP hS
  refine va_gets hx hb (hL.1) hS hown (hts (.fieldLink RJ5 18 "java/lang/String" "COMPACT_STRINGS" "Z") (List.mem_of_getElem? (i := 1) rfl)) (fun _ h9 => h9) dJ5_isLatin1_aae02_0 ?_
  refine lv_if_eq (tgt := 17) hx hb dJ5_isLatin1_aae02_3 (by decide) (fun c3 => ?_) (fun c3 => ?_)
  · have qc3 : 1 = 0 := (wn_eq (a := 1) (b := 0) rfl rfl (by omega) (by omega)).mp c3
    exact absurd qc3 (by omega)
  · have qc3 : ¬ 1 = 0 := fun z => c3 ((wn_eq (a := 1) (b := 0) rfl rfl (by omega) (by omega)).mpr z)
    refine lv_aload_n hx hb dJ5_isLatin1_aae02_6 rfl (lv_at hl 0 rfl) ?_
    refine w_lget (v := .int (I 100 1)) hx hb hts inJ5_isLatin1_aae02_J4 hown hK hP (by omega) 1 (by decide) rfl (List.mem_of_getElem? (i := 2) rfl) (fun _ h9 => h9) dJ5_isLatin1_aae02_7 ?_
    refine w_topN (a := 0) hc ?_
    refine lv_if_ne (tgt := 17) hx hb dJ5_isLatin1_aae02_10 (by decide) (fun c10 => ?_) (fun c10 => ?_)
    · have qc10 : ¬ 0 = 0 := fun z => c10 ((wn_eq (a := 0) (b := 0) rfl rfl (by omega) (by omega)).mpr z)
      exact absurd qc10 (by omega)
    · have qc10 : 0 = 0 := (wn_eq (a := 0) (b := 0) rfl rfl (by omega) (by omega)).mp c10
      refine lv_iconst (v := 1) hx hb dJ5_isLatin1_aae02_13 (by decide) ?_
      refine lv_goto (tgt := 18) hx hb dJ5_isLatin1_aae02_14 (by decide) ?_
      exact w_zret hx hb hr rfl hlocks hK hP hS ⟨by subst_vars; rfl, by subst_vars; rfl, by subst_vars; rfl, by subst_vars; rfl⟩ dJ5_isLatin1_aae02_18

set_option maxHeartbeats 4000000 in
set_option maxRecDepth 100000 in
/-- J1_canEncode_fc78d -/
theorem c_J1_canEncode_fc78d (l : Launch) (nW : Nat) (D : va_G) (cA : Nat → ClassId) (ad K V : Nat → Nat) (tO tT : Nat) (hi : inj nW ad) (hNW : 102 ≤ nW) (I : SI) (J : SJ) (X : SX) (sz : Nat) (k : Nat) (hk : k < 128) : Met l yJ1_canEncode_fc78d wsJ1_canEncode_fc78d ({ frames := 0, cells := 0, slots := 0, locals := 0 }) (va_Pc [.int (nI (k))] (wPreL nW D cA ad K V tO tT I J X sz)) (qI nW D cA ad sz (1) I J X) 0 0 (fr nW ad sz) := by
  refine Met.ofW (cc := cJ1_canEncode_fc78d) (maxL := 1) (ret := (some .boolean)) (by decide) rfl ?_
  intro p e s m args below meth c s₁ B hml hv
  obtain ⟨rfl, ⟨rfl, hP, hK⟩, hL⟩ := hv
  have hx := B.exec
  have hb := B.bytes
  have hr := B.returns
  have hts := atoms_spec (ws := wsJ1_canEncode_fc78d) B.pre
  have hown : s.vm.findClass RJ1 = some m.cls := findClass_of_methodNamed B.named
  have hlocks := B.notSynchronized
  have hS : va_S (fr nW ad s.heap.size) s.heap s.heap [] := va_S.rf
  have hA : ∀ k, k < nW → fr nW ad s.heap.size (ad k) := fr_ad
  have hl := lv_entry ([.int (nI (k))]) (n := 1) (Nat.le_of_ble_eq_true rfl)
  rw [lg_entry_eq]
  generalize (lg_sl ([.int (nI (k))]) ++ List.replicate (1 - (lg_sl ([.int (nI (k))])).length) Slot.unset).toArray = ls at hl ⊢
  have hl : lv_has ls 1 [(0, .int (nI (k)))] := hl
  suffices Z9 : ∀ (H : Heap) (locs : List Loc), WP nW D cA ad I J X H → va_S (fr nW ad s.heap.size) s.heap H locs → W p l e (headSpec wsJ1_canEncode_fc78d ({ frames := 0, cells := 0, slots := 0, locals := 0 })).room s m ([.int (nI (k))] : List Value).toArray below meth c H locs 0 0 (MQ below (qI nW D cA ad s.heap.size (1) I J X) ([.int (nI (k))] : List Value).toArray s 0 0 (fr nW ad s.heap.size)) (F0 m 0 ls []) from Z9 _ _ hP hS
  clear hP hS
  intro H locs hP hS
  refine lv_iload_n hx hb dJ1_canEncode_fc78d_0 rfl (lv_at hl 0 rfl) ?_
  refine lv_sipush (v := 255) hx hb dJ1_canEncode_fc78d_1 (by decide) ?_
  refine lv_icmp_gt (tgt := 11) hx hb dJ1_canEncode_fc78d_4 (by decide) (fun c4 => ?_) (fun c4 => ?_)
  · have qc4 : 255 < k := (wn_lt (a := 255) (b := k) rfl rfl (by omega) (by omega)).mp c4
    exact absurd qc4 (by omega)
  · have qc4 : ¬ 255 < k := fun z => c4 ((wn_lt (a := 255) (b := k) rfl rfl (by omega) (by omega)).mpr z)
    refine lv_iconst (v := 1) hx hb dJ1_canEncode_fc78d_7 (by decide) ?_
    refine lv_goto (tgt := 12) hx hb dJ1_canEncode_fc78d_8 (by decide) ?_
    exact w_zret hx hb hr rfl hlocks hK hP hS ⟨by subst_vars; rfl, by subst_vars; rfl, by subst_vars; rfl, by subst_vars; rfl⟩ dJ1_canEncode_fc78d_12

theorem inJ5_append_3fe6f_J4 : ∀ w ∈ wsJ40, w ∈ wsJ5_append_3fe6f := by decide +kernel
set_option maxHeartbeats 4000000 in
set_option maxRecDepth 100000 in
/-- J5_append_3fe6f -/
theorem c_J5_append_3fe6f (l : Launch) (nW : Nat) (D : va_G) (cA : Nat → ClassId) (ad K V : Nat → Nat) (tO tT : Nat) (hi : inj nW ad) (hNW : 102 ≤ nW) (I : SI) (J : SJ) (X : SX) (sz : Nat) (L : List Nat) (hc : I 100 1 = 0) (k : Nat) (hk : k < 128) (h16 : L.length < 16) : Met l yJ5_append_3fe6f wsJ5_append_3fe6f ({ frames := 1, cells := 0, slots := 0, locals := 22 }) (va_Pc [.ref (ad 100), .int (nI (k))] (wPreL nW D cA ad K V tO tT (tL I L) J X sz)) (qA nW D cA ad sz (ad 100) (tL I (L ++ [k])) J X) 0 0 (fr nW ad sz) := by
  refine Met.ofW (cc := cJ5_append_3fe6f) (maxL := 2) (ret := (some (.object "java/lang/AbstractStringBuilder"))) (by decide) rfl ?_
  intro p e s m args below meth c s₁ B hml hv
  obtain ⟨rfl, ⟨rfl, hP, hK⟩, hL⟩ := hv
  have hx := B.exec
  have hb := B.bytes
  have hr := B.returns
  have hts := atoms_spec (ws := wsJ5_append_3fe6f) B.pre
  have hown : s.vm.findClass RJ5 = some m.cls := findClass_of_methodNamed B.named
  have hlocks := B.notSynchronized
  have hS : va_S (fr nW ad s.heap.size) s.heap s.heap [] := va_S.rf
  have hA : ∀ k, k < nW → fr nW ad s.heap.size (ad k) := fr_ad
  have hl := lv_entry ([.ref (ad 100), .int (nI (k))]) (n := 2) (Nat.le_of_ble_eq_true rfl)
  rw [lg_entry_eq]
  generalize (lg_sl ([.ref (ad 100), .int (nI (k))]) ++ List.replicate (2 - (lg_sl ([.ref (ad 100), .int (nI (k))])).length) Slot.unset).toArray = ls at hl ⊢
  have hl : lv_has ls 2 [(0, .ref (ad 100)), (1, .int (nI (k)))] := hl
  suffices Z9 : ∀ (H : Heap) (locs : List Loc), WP nW D cA ad (tL I L) J X H → va_S (fr nW ad s.heap.size) s.heap H locs → W p l e (headSpec wsJ5_append_3fe6f ({ frames := 1, cells := 0, slots := 0, locals := 22 })).room s m ([.ref (ad 100), .int (nI (k))] : List Value).toArray below meth c H locs 0 0 (MQ below (qA nW D cA ad s.heap.size (ad 100) (tL I (L ++ [k])) J X) ([.ref (ad 100), .int (nI (k))] : List Value).toArray s 0 0 (fr nW ad s.heap.size)) (F0 m 0 ls []) from Z9 _ _ hP hS
  clear hP hS
  intro H locs hP hS
  refine lv_aload_n hx hb dJ5_append_3fe6f_0 rfl (lv_at hl 0 rfl) ?_
  refine lv_aload_n hx hb dJ5_append_3fe6f_1 rfl (lv_at hl 0 rfl) ?_
  refine w_lget (v := .int ((tL I L) 100 3)) hx hb hts inJ5_append_3fe6f_J4 hown hK hP (by omega) 3 (by decide) rfl (List.mem_of_getElem? (i := 1) rfl) (fun _ h9 => h9) dJ5_append_3fe6f_2 ?_
  refine w_topN (a := L.length) (tL_cnt I L) ?_
  refine lv_iconst (v := 1) hx hb dJ5_append_3fe6f_5 (by decide) ?_
  refine w_iaddN (a := L.length) (b := 1) hx hb rfl rfl dJ5_append_3fe6f_6 ?_
  refine w_callv (va_runU (As := [.int (nI (L.length + 1))]) (rest := []) ⟨hx, hb, hml, hown, hts⟩ (c_J5_ensureCapacityInternal_d00df l nW D cA ad K V tO tT hi hNW (tL I L) J X H.size (L.length + 1) (by omega) ((tL_cod I L).trans hc)) (va_cwU 1 hts gJ5_append_3fe6f_J5_ensureCapacityInternal_d00df_u100J4 rfl rfl rfl rfl (by decide +kernel) ⟨Nat.le_of_ble_eq_true rfl, Nat.le_of_ble_eq_true rfl⟩) (w_preVL hK hP hL hS 100 (by omega) ⟨rfl, rfl⟩ rfl) rfl rfl hl.1 rfl (lv_room (Nat.le_of_ble_eq_true rfl)) dJ5_append_3fe6f_7 ⟨Nat.le_of_ble_eq_true rfl, Nat.le_of_ble_eq_true rfl⟩) hS (fun H locs hP hS => ?_)
  refine lv_aload_n hx hb dJ5_append_3fe6f_10 rfl (lv_at hl 0 rfl) ?_
  refine w_calli (va_runU (As := []) (rest := []) ⟨hx, hb, hml, hown, hts⟩ (c_J5_isLatin1_aae02 l nW D cA ad K V tO tT hi hNW (tL I L) J X H.size ((tL_cod I L).trans hc)) (va_cwU 0 hts gJ5_append_3fe6f_J5_isLatin1_aae02_u83J4 rfl rfl rfl rfl (by decide +kernel) ⟨Nat.le_of_ble_eq_true rfl, Nat.le_of_ble_eq_true rfl⟩) (w_preVL hK hP hL hS 100 (by omega) ⟨rfl, rfl⟩ rfl) rfl rfl hl.1 rfl (lv_room (Nat.le_of_ble_eq_true rfl)) dJ5_append_3fe6f_11 ⟨Nat.le_of_ble_eq_true rfl, Nat.le_of_ble_eq_true rfl⟩) hS (fun H locs hP hS => ?_)
  refine lv_if_eq (tgt := 45) hx hb dJ5_append_3fe6f_14 (by decide) (fun c14 => ?_) (fun c14 => ?_)
  · have qc14 : 1 = 0 := (wn_eq (a := 1) (b := 0) rfl rfl (by omega) (by omega)).mp c14
    exact absurd qc14 (by omega)
  · have qc14 : ¬ 1 = 0 := fun z => c14 ((wn_eq (a := 1) (b := 0) rfl rfl (by omega) (by omega)).mpr z)
    refine lv_iload_n hx hb dJ5_append_3fe6f_17 rfl (lv_at hl 1 rfl) ?_
    refine w_calli (va_runS (As := [.int (nI (k))]) (rest := []) ⟨hx, hb, hml, hown, hts⟩ (c_J1_canEncode_fc78d l nW D cA ad K V tO tT hi hNW (tL I L) J X H.size k (by omega)) (va_cwS 1 hts gJ5_append_3fe6f_J1_canEncode_fc78d rfl rfl rfl (by decide +kernel) ⟨Nat.le_of_ble_eq_true rfl, Nat.le_of_ble_eq_true rfl⟩) (w_preSL hK hP hL hS) rfl rfl hl.1 rfl (lv_room (Nat.le_of_ble_eq_true rfl)) dJ5_append_3fe6f_18 ⟨Nat.le_of_ble_eq_true rfl, Nat.le_of_ble_eq_true rfl⟩) hS (fun H locs hP hS => ?_)
    refine lv_if_eq (tgt := 45) hx hb dJ5_append_3fe6f_21 (by decide) (fun c21 => ?_) (fun c21 => ?_)
    · have qc21 : 1 = 0 := (wn_eq (a := 1) (b := 0) rfl rfl (by omega) (by omega)).mp c21
      exact absurd qc21 (by omega)
    · have qc21 : ¬ 1 = 0 := fun z => c21 ((wn_eq (a := 1) (b := 0) rfl rfl (by omega) (by omega)).mpr z)
      refine lv_aload_n hx hb dJ5_append_3fe6f_24 rfl (lv_at hl 0 rfl) ?_
      refine w_lget (v := .ref (ad 101)) hx hb hts inJ5_append_3fe6f_J4 hown hK hP (by omega) 0 (by decide) rfl (List.mem_of_getElem? (i := 2) rfl) (fun _ h9 => h9) dJ5_append_3fe6f_25 ?_
      refine lv_aload_n hx hb dJ5_append_3fe6f_28 rfl (lv_at hl 0 rfl) ?_
      refine lv_dup hx hb dJ5_append_3fe6f_29 rfl ?_
      refine w_lget (v := .int ((tL I L) 100 3)) hx hb hts inJ5_append_3fe6f_J4 hown hK hP (by omega) 3 (by decide) rfl (List.mem_of_getElem? (i := 1) rfl) (fun _ h9 => h9) dJ5_append_3fe6f_30 ?_
      refine w_topN (a := L.length) (tL_cnt I L) ?_
      refine lv_dup_x1 hx hb dJ5_append_3fe6f_33 rfl rfl ?_
      refine lv_iconst (v := 1) hx hb dJ5_append_3fe6f_34 (by decide) ?_
      refine w_iaddN (a := L.length) (b := 1) hx hb rfl rfl dJ5_append_3fe6f_35 ?_
      refine w_lput (v := nI (L.length + 1)) (ty := .int) hx hb hts inJ5_append_3fe6f_J4 hown hK hP hi hA hS (by omega) 3 (by decide) rfl (by decide +kernel) rfl rfl rfl (List.mem_of_getElem? (i := 1) rfl) (fun _ h9 => h9) dJ5_append_3fe6f_36 (fun H locs hP hS => ?_)
      obtain ⟨I_1, eI_1⟩ : ∃ y, y = st2 (tL I L) 100 3 (nI (L.length + 1)) := ⟨_, rfl⟩
      have hP : WP nW D cA ad I_1 J X H := by rw [eI_1]; exact hP
      refine lv_iload_n hx hb dJ5_append_3fe6f_39 rfl (lv_at hl 1 rfl) ?_
      refine lv_i2b (v := nI (k)) hx hb dJ5_append_3fe6f_40 (by rw [show nI (k) = nI (k) from rfl]; exact nI_b _ (by omega)) ?_
      refine w_bast (v := nI (k)) (w := nI (k)) hx hb hK hP hi hA hS (by omega) (L.length) (by omega) rfl (by rw [show nI (k) = nI (k) from rfl]; exact nI_n8 _ (by omega)) dJ5_append_3fe6f_41 (fun H locs hP hS => ?_)
      obtain ⟨I_2, eI_2⟩ : ∃ y, y = st2 I_1 101 (L.length) (nI (k)) := ⟨_, rfl⟩
      have hP : WP nW D cA ad I_2 J X H := by rw [eI_2]; exact hP
      refine lv_goto (tgt := 75) hx hb dJ5_append_3fe6f_42 (by decide) ?_
      refine lv_aload_n hx hb dJ5_append_3fe6f_75 rfl (lv_at hl 0 rfl) ?_
      exact w_aret hx hb hr ⟨_, rfl⟩ hlocks hK hP hS ⟨rfl, by subst_vars; exact tL_put1 I L k, rfl, rfl⟩ dJ5_append_3fe6f_76

theorem inJ5_append_c97b9_J4 : ∀ w ∈ wsJ40, w ∈ wsJ5_append_c97b9 := by decide +kernel
set_option maxHeartbeats 4000000 in
set_option maxRecDepth 100000 in
/-- J5_append_c97b9 -/
theorem c_J5_ai1 (l : Launch) (nW : Nat) (D : va_G) (cA : Nat → ClassId) (ad K V : Nat → Nat) (tO tT : Nat) (hi : inj nW ad) (hNW : 102 ≤ nW) (I : SI) (J : SJ) (X : SX) (sz : Nat) (L : List Nat) (hc : I 100 1 = 0) (k : Nat) (hk : k < 10) (h16 : L.length < 16) : Met l yJ5_append_c97b9 wsJ5_append_c97b9 ({ frames := 1, cells := 0, slots := 0, locals := 26 }) (va_Pc [.ref (ad 100), .int (nI (k))] (wPreL nW D cA ad K V tO tT (tL I L) J X sz)) (qA nW D cA ad sz (ad 100) (tL I (L ++ dg k)) J X) 0 0 (fr nW ad sz) := by
  refine Met.ofW (cc := cJ5_append_c97b9) (maxL := 4) (ret := (some (.object "java/lang/AbstractStringBuilder"))) (by decide) rfl ?_
  intro p e s m args below meth c s₁ B hml hv
  obtain ⟨rfl, ⟨rfl, hP, hK⟩, hL⟩ := hv
  have hx := B.exec
  have hb := B.bytes
  have hr := B.returns
  have hts := atoms_spec (ws := wsJ5_append_c97b9) B.pre
  have hown : s.vm.findClass RJ5 = some m.cls := findClass_of_methodNamed B.named
  have hlocks := B.notSynchronized
  have hS : va_S (fr nW ad s.heap.size) s.heap s.heap [] := va_S.rf
  have hA : ∀ k, k < nW → fr nW ad s.heap.size (ad k) := fr_ad
  have hl := lv_entry ([.ref (ad 100), .int (nI (k))]) (n := 4) (Nat.le_of_ble_eq_true rfl)
  rw [lg_entry_eq]
  generalize (lg_sl ([.ref (ad 100), .int (nI (k))]) ++ List.replicate (4 - (lg_sl ([.ref (ad 100), .int (nI (k))])).length) Slot.unset).toArray = ls at hl ⊢
  have hl : lv_has ls 4 [(0, .ref (ad 100)), (1, .int (nI (k)))] := hl
  suffices Z9 : ∀ (H : Heap) (locs : List Loc), WP nW D cA ad (tL I L) J X H → va_S (fr nW ad s.heap.size) s.heap H locs → W p l e (headSpec wsJ5_append_c97b9 ({ frames := 1, cells := 0, slots := 0, locals := 26 })).room s m ([.ref (ad 100), .int (nI (k))] : List Value).toArray below meth c H locs 0 0 (MQ below (qA nW D cA ad s.heap.size (ad 100) (tL I (L ++ dg k)) J X) ([.ref (ad 100), .int (nI (k))] : List Value).toArray s 0 0 (fr nW ad s.heap.size)) (F0 m 0 ls []) from Z9 _ _ hP hS
  clear hP hS
  intro H locs hP hS
  refine lv_aload_n hx hb dJ5_append_c97b9_0 rfl (lv_at hl 0 rfl) ?_
  refine w_lget (v := .int ((tL I L) 100 3)) hx hb hts inJ5_append_c97b9_J4 hown hK hP (by omega) 3 (by decide) rfl (List.mem_of_getElem? (i := 1) rfl) (fun _ h9 => h9) dJ5_append_c97b9_1 ?_
  refine w_topN (a := L.length) (tL_cnt I L) ?_
  refine lv_istore_n (lv' := [(2, .int (nI (L.length))), (0, .ref (ad 100)), (1, .int (nI (k)))]) hx hb dJ5_append_c97b9_4 rfl hl (by decide) rfl (fun ls hl => ?_)
  refine lv_iload_n hx hb dJ5_append_c97b9_5 rfl (lv_at hl 0 rfl) ?_
  refine lv_iload_n hx hb dJ5_append_c97b9_6 rfl (lv_at hl 2 rfl) ?_
  refine w_calli (va_runS (As := [.int (nI (k))]) (rest := [.int (nI (L.length))]) ⟨hx, hb, hml, hown, hts⟩ (c_J6_ss l nW D cA ad K V tO tT hi hNW (tL I L) J X H.size k (by omega)) (va_cwS 1 hts gJ5_append_c97b9_J6_stringSize_0f7a4 rfl rfl rfl (by decide +kernel) ⟨Nat.le_of_ble_eq_true rfl, Nat.le_of_ble_eq_true rfl⟩) (w_preSL hK hP hL hS) rfl rfl hl.1 rfl (lv_room (Nat.le_of_ble_eq_true rfl)) dJ5_append_c97b9_7 ⟨Nat.le_of_ble_eq_true rfl, Nat.le_of_ble_eq_true rfl⟩) hS (fun H locs hP hS => ?_)
  refine w_iaddN (a := L.length) (b := (dsz k)) hx hb rfl rfl dJ5_append_c97b9_10 ?_
  refine w_topN (a := (L.length + 1)) (by rw [show dsz k = 1 from if_pos hk]) ?_
  refine lv_istore_n (lv' := [(3, .int (nI (L.length + 1))), (2, .int (nI (L.length))), (0, .ref (ad 100)), (1, .int (nI (k)))]) hx hb dJ5_append_c97b9_11 rfl hl (by decide) rfl (fun ls hl => ?_)
  refine lv_aload_n hx hb dJ5_append_c97b9_12 rfl (lv_at hl 2 rfl) ?_
  refine lv_iload_n hx hb dJ5_append_c97b9_13 rfl (lv_at hl 0 rfl) ?_
  refine w_callv (va_runU (As := [.int (nI (L.length + 1))]) (rest := []) ⟨hx, hb, hml, hown, hts⟩ (c_J5_ensureCapacityInternal_d00df l nW D cA ad K V tO tT hi hNW (tL I L) J X H.size (L.length + 1) (by omega) ((tL_cod I L).trans hc)) (va_cwU 1 hts gJ5_append_c97b9_J5_ensureCapacityInternal_d00df_u100J4 rfl rfl rfl rfl (by decide +kernel) ⟨Nat.le_of_ble_eq_true rfl, Nat.le_of_ble_eq_true rfl⟩) (w_preVL hK hP hL hS 100 (by omega) ⟨rfl, rfl⟩ rfl) rfl rfl hl.1 rfl (lv_room (Nat.le_of_ble_eq_true rfl)) dJ5_append_c97b9_14 ⟨Nat.le_of_ble_eq_true rfl, Nat.le_of_ble_eq_true rfl⟩) hS (fun H locs hP hS => ?_)
  refine lv_aload_n hx hb dJ5_append_c97b9_17 rfl (lv_at hl 2 rfl) ?_
  refine w_calli (va_runU (As := []) (rest := []) ⟨hx, hb, hml, hown, hts⟩ (c_J5_isLatin1_aae02 l nW D cA ad K V tO tT hi hNW (tL I L) J X H.size ((tL_cod I L).trans hc)) (va_cwU 0 hts gJ5_append_c97b9_J5_isLatin1_aae02_u83J4 rfl rfl rfl rfl (by decide +kernel) ⟨Nat.le_of_ble_eq_true rfl, Nat.le_of_ble_eq_true rfl⟩) (w_preVL hK hP hL hS 100 (by omega) ⟨rfl, rfl⟩ rfl) rfl rfl hl.1 rfl (lv_room (Nat.le_of_ble_eq_true rfl)) dJ5_append_c97b9_18 ⟨Nat.le_of_ble_eq_true rfl, Nat.le_of_ble_eq_true rfl⟩) hS (fun H locs hP hS => ?_)
  refine lv_if_eq (tgt := 37) hx hb dJ5_append_c97b9_21 (by decide) (fun c21 => ?_) (fun c21 => ?_)
  · have qc21 : 1 = 0 := (wn_eq (a := 1) (b := 0) rfl rfl (by omega) (by omega)).mp c21
    exact absurd qc21 (by omega)
  · have qc21 : ¬ 1 = 0 := fun z => c21 ((wn_eq (a := 1) (b := 0) rfl rfl (by omega) (by omega)).mpr z)
    refine lv_iload_n hx hb dJ5_append_c97b9_24 rfl (lv_at hl 3 rfl) ?_
    refine lv_iload_n hx hb dJ5_append_c97b9_25 rfl (lv_at hl 0 rfl) ?_
    refine lv_aload_n hx hb dJ5_append_c97b9_26 rfl (lv_at hl 2 rfl) ?_
    refine w_lget (v := .ref (ad 101)) hx hb hts inJ5_append_c97b9_J4 hown hK hP (by omega) 0 (by decide) rfl (List.mem_of_getElem? (i := 2) rfl) (fun _ h9 => h9) dJ5_append_c97b9_27 ?_
    refine w_calli (va_runS (As := [.int (nI (k)), .int (nI (L.length + 1)), .ref (ad 101)]) (rest := []) ⟨hx, hb, hml, hown, hts⟩ (c_J6_gc1 l nW D cA ad K V tO tT hi hNW (tL I L) J X H.size k L.length (by omega) (by omega)) (va_cwS 3 hts gJ5_append_c97b9_J6_getChars_ba4f3 rfl rfl rfl (by decide +kernel) ⟨Nat.le_of_ble_eq_true rfl, Nat.le_of_ble_eq_true rfl⟩) (w_preSL hK hP hL hS) rfl rfl hl.1 rfl (lv_room (Nat.le_of_ble_eq_true rfl)) dJ5_append_c97b9_30 ⟨Nat.le_of_ble_eq_true rfl, Nat.le_of_ble_eq_true rfl⟩) hS (fun H locs hP hS => ?_)
    refine lv_pop hx hb dJ5_append_c97b9_33 rfl ?_
    refine lv_goto (tgt := 48) hx hb dJ5_append_c97b9_34 (by decide) ?_
    refine lv_aload_n hx hb dJ5_append_c97b9_48 rfl (lv_at hl 2 rfl) ?_
    refine lv_iload_n hx hb dJ5_append_c97b9_49 rfl (lv_at hl 0 rfl) ?_
    refine w_lput (v := nI (L.length + 1)) (ty := .int) hx hb hts inJ5_append_c97b9_J4 hown hK hP hi hA hS (by omega) 3 (by decide) rfl (by decide +kernel) rfl rfl rfl (List.mem_of_getElem? (i := 1) rfl) (fun _ h9 => h9) dJ5_append_c97b9_50 (fun H locs hP hS => ?_)
    obtain ⟨I_1, eI_1⟩ : ∃ y, y = st2 (st2 (tL I L) 101 L.length (nI (48 + k % 10))) 100 3 (nI (L.length + 1)) := ⟨_, rfl⟩
    have hP : WP nW D cA ad I_1 J X H := by rw [eI_1]; exact hP
    refine lv_aload_n hx hb dJ5_append_c97b9_53 rfl (lv_at hl 2 rfl) ?_
    exact w_aret hx hb hr ⟨_, rfl⟩ hlocks hK hP hS ⟨rfl, by subst_vars; unfold dg; rw [if_pos hk]; rw [Nat.mod_eq_of_lt hk]; exact tL_put1' I L _, rfl, rfl⟩ dJ5_append_c97b9_54

set_option maxHeartbeats 4000000 in
set_option maxRecDepth 100000 in
/-- J5_append_c97b9 -/
theorem c_J5_ai2 (l : Launch) (nW : Nat) (D : va_G) (cA : Nat → ClassId) (ad K V : Nat → Nat) (tO tT : Nat) (hi : inj nW ad) (hNW : 102 ≤ nW) (I : SI) (J : SJ) (X : SX) (sz : Nat) (L : List Nat) (hc : I 100 1 = 0) (k : Nat) (hk : 10 ≤ k) (hk2 : k < 100) (h16 : L.length + 1 < 16) : Met l yJ5_append_c97b9 wsJ5_append_c97b9 ({ frames := 1, cells := 0, slots := 0, locals := 26 }) (va_Pc [.ref (ad 100), .int (nI (k))] (wPreL nW D cA ad K V tO tT (tL I L) J X sz)) (qA nW D cA ad sz (ad 100) (tL I (L ++ dg k)) J X) 0 0 (fr nW ad sz) := by
  refine Met.ofW (cc := cJ5_append_c97b9) (maxL := 4) (ret := (some (.object "java/lang/AbstractStringBuilder"))) (by decide) rfl ?_
  intro p e s m args below meth c s₁ B hml hv
  obtain ⟨rfl, ⟨rfl, hP, hK⟩, hL⟩ := hv
  have hx := B.exec
  have hb := B.bytes
  have hr := B.returns
  have hts := atoms_spec (ws := wsJ5_append_c97b9) B.pre
  have hown : s.vm.findClass RJ5 = some m.cls := findClass_of_methodNamed B.named
  have hlocks := B.notSynchronized
  have hS : va_S (fr nW ad s.heap.size) s.heap s.heap [] := va_S.rf
  have hA : ∀ k, k < nW → fr nW ad s.heap.size (ad k) := fr_ad
  have hl := lv_entry ([.ref (ad 100), .int (nI (k))]) (n := 4) (Nat.le_of_ble_eq_true rfl)
  rw [lg_entry_eq]
  generalize (lg_sl ([.ref (ad 100), .int (nI (k))]) ++ List.replicate (4 - (lg_sl ([.ref (ad 100), .int (nI (k))])).length) Slot.unset).toArray = ls at hl ⊢
  have hl : lv_has ls 4 [(0, .ref (ad 100)), (1, .int (nI (k)))] := hl
  suffices Z9 : ∀ (H : Heap) (locs : List Loc), WP nW D cA ad (tL I L) J X H → va_S (fr nW ad s.heap.size) s.heap H locs → W p l e (headSpec wsJ5_append_c97b9 ({ frames := 1, cells := 0, slots := 0, locals := 26 })).room s m ([.ref (ad 100), .int (nI (k))] : List Value).toArray below meth c H locs 0 0 (MQ below (qA nW D cA ad s.heap.size (ad 100) (tL I (L ++ dg k)) J X) ([.ref (ad 100), .int (nI (k))] : List Value).toArray s 0 0 (fr nW ad s.heap.size)) (F0 m 0 ls []) from Z9 _ _ hP hS
  clear hP hS
  intro H locs hP hS
  refine lv_aload_n hx hb dJ5_append_c97b9_0 rfl (lv_at hl 0 rfl) ?_
  refine w_lget (v := .int ((tL I L) 100 3)) hx hb hts inJ5_append_c97b9_J4 hown hK hP (by omega) 3 (by decide) rfl (List.mem_of_getElem? (i := 1) rfl) (fun _ h9 => h9) dJ5_append_c97b9_1 ?_
  refine w_topN (a := L.length) (tL_cnt I L) ?_
  refine lv_istore_n (lv' := [(2, .int (nI (L.length))), (0, .ref (ad 100)), (1, .int (nI (k)))]) hx hb dJ5_append_c97b9_4 rfl hl (by decide) rfl (fun ls hl => ?_)
  refine lv_iload_n hx hb dJ5_append_c97b9_5 rfl (lv_at hl 0 rfl) ?_
  refine lv_iload_n hx hb dJ5_append_c97b9_6 rfl (lv_at hl 2 rfl) ?_
  refine w_calli (va_runS (As := [.int (nI (k))]) (rest := [.int (nI (L.length))]) ⟨hx, hb, hml, hown, hts⟩ (c_J6_ss l nW D cA ad K V tO tT hi hNW (tL I L) J X H.size k (by omega)) (va_cwS 1 hts gJ5_append_c97b9_J6_stringSize_0f7a4 rfl rfl rfl (by decide +kernel) ⟨Nat.le_of_ble_eq_true rfl, Nat.le_of_ble_eq_true rfl⟩) (w_preSL hK hP hL hS) rfl rfl hl.1 rfl (lv_room (Nat.le_of_ble_eq_true rfl)) dJ5_append_c97b9_7 ⟨Nat.le_of_ble_eq_true rfl, Nat.le_of_ble_eq_true rfl⟩) hS (fun H locs hP hS => ?_)
  refine w_iaddN (a := L.length) (b := (dsz k)) hx hb rfl rfl dJ5_append_c97b9_10 ?_
  refine w_topN (a := (L.length + 1 + 1)) (by rw [show dsz k = 2 from if_neg (by omega)]) ?_
  refine lv_istore_n (lv' := [(3, .int (nI (L.length + 1 + 1))), (2, .int (nI (L.length))), (0, .ref (ad 100)), (1, .int (nI (k)))]) hx hb dJ5_append_c97b9_11 rfl hl (by decide) rfl (fun ls hl => ?_)
  refine lv_aload_n hx hb dJ5_append_c97b9_12 rfl (lv_at hl 2 rfl) ?_
  refine lv_iload_n hx hb dJ5_append_c97b9_13 rfl (lv_at hl 0 rfl) ?_
  refine w_callv (va_runU (As := [.int (nI (L.length + 1 + 1))]) (rest := []) ⟨hx, hb, hml, hown, hts⟩ (c_J5_ensureCapacityInternal_d00df l nW D cA ad K V tO tT hi hNW (tL I L) J X H.size (L.length + 1 + 1) (by omega) ((tL_cod I L).trans hc)) (va_cwU 1 hts gJ5_append_c97b9_J5_ensureCapacityInternal_d00df_u100J4 rfl rfl rfl rfl (by decide +kernel) ⟨Nat.le_of_ble_eq_true rfl, Nat.le_of_ble_eq_true rfl⟩) (w_preVL hK hP hL hS 100 (by omega) ⟨rfl, rfl⟩ rfl) rfl rfl hl.1 rfl (lv_room (Nat.le_of_ble_eq_true rfl)) dJ5_append_c97b9_14 ⟨Nat.le_of_ble_eq_true rfl, Nat.le_of_ble_eq_true rfl⟩) hS (fun H locs hP hS => ?_)
  refine lv_aload_n hx hb dJ5_append_c97b9_17 rfl (lv_at hl 2 rfl) ?_
  refine w_calli (va_runU (As := []) (rest := []) ⟨hx, hb, hml, hown, hts⟩ (c_J5_isLatin1_aae02 l nW D cA ad K V tO tT hi hNW (tL I L) J X H.size ((tL_cod I L).trans hc)) (va_cwU 0 hts gJ5_append_c97b9_J5_isLatin1_aae02_u83J4 rfl rfl rfl rfl (by decide +kernel) ⟨Nat.le_of_ble_eq_true rfl, Nat.le_of_ble_eq_true rfl⟩) (w_preVL hK hP hL hS 100 (by omega) ⟨rfl, rfl⟩ rfl) rfl rfl hl.1 rfl (lv_room (Nat.le_of_ble_eq_true rfl)) dJ5_append_c97b9_18 ⟨Nat.le_of_ble_eq_true rfl, Nat.le_of_ble_eq_true rfl⟩) hS (fun H locs hP hS => ?_)
  refine lv_if_eq (tgt := 37) hx hb dJ5_append_c97b9_21 (by decide) (fun c21 => ?_) (fun c21 => ?_)
  · have qc21 : 1 = 0 := (wn_eq (a := 1) (b := 0) rfl rfl (by omega) (by omega)).mp c21
    exact absurd qc21 (by omega)
  · have qc21 : ¬ 1 = 0 := fun z => c21 ((wn_eq (a := 1) (b := 0) rfl rfl (by omega) (by omega)).mpr z)
    refine lv_iload_n hx hb dJ5_append_c97b9_24 rfl (lv_at hl 3 rfl) ?_
    refine lv_iload_n hx hb dJ5_append_c97b9_25 rfl (lv_at hl 0 rfl) ?_
    refine lv_aload_n hx hb dJ5_append_c97b9_26 rfl (lv_at hl 2 rfl) ?_
    refine w_lget (v := .ref (ad 101)) hx hb hts inJ5_append_c97b9_J4 hown hK hP (by omega) 0 (by decide) rfl (List.mem_of_getElem? (i := 2) rfl) (fun _ h9 => h9) dJ5_append_c97b9_27 ?_
    refine w_calli (va_runS (As := [.int (nI (k)), .int (nI (L.length + 1 + 1)), .ref (ad 101)]) (rest := []) ⟨hx, hb, hml, hown, hts⟩ (c_J6_gc2 l nW D cA ad K V tO tT hi hNW (tL I L) J X H.size k L.length (by omega) (by omega) (by omega)) (va_cwS 3 hts gJ5_append_c97b9_J6_getChars_ba4f3 rfl rfl rfl (by decide +kernel) ⟨Nat.le_of_ble_eq_true rfl, Nat.le_of_ble_eq_true rfl⟩) (w_preSL hK hP hL hS) rfl rfl hl.1 rfl (lv_room (Nat.le_of_ble_eq_true rfl)) dJ5_append_c97b9_30 ⟨Nat.le_of_ble_eq_true rfl, Nat.le_of_ble_eq_true rfl⟩) hS (fun H locs hP hS => ?_)
    refine lv_pop hx hb dJ5_append_c97b9_33 rfl ?_
    refine lv_goto (tgt := 48) hx hb dJ5_append_c97b9_34 (by decide) ?_
    refine lv_aload_n hx hb dJ5_append_c97b9_48 rfl (lv_at hl 2 rfl) ?_
    refine lv_iload_n hx hb dJ5_append_c97b9_49 rfl (lv_at hl 0 rfl) ?_
    refine w_lput (v := nI (L.length + 1 + 1)) (ty := .int) hx hb hts inJ5_append_c97b9_J4 hown hK hP hi hA hS (by omega) 3 (by decide) rfl (by decide +kernel) rfl rfl rfl (List.mem_of_getElem? (i := 1) rfl) (fun _ h9 => h9) dJ5_append_c97b9_50 (fun H locs hP hS => ?_)
    obtain ⟨I_1, eI_1⟩ : ∃ y, y = st2 (st2 (st2 (tL I L) 101 (L.length + 1) (nI (48 + k % 10))) 101 L.length (nI (48 + k / 10))) 100 3 (nI (L.length + 1 + 1)) := ⟨_, rfl⟩
    have hP : WP nW D cA ad I_1 J X H := by rw [eI_1]; exact hP
    refine lv_aload_n hx hb dJ5_append_c97b9_53 rfl (lv_at hl 2 rfl) ?_
    exact w_aret hx hb hr ⟨_, rfl⟩ hlocks hK hP hS ⟨rfl, by subst_vars; unfold dg; rw [if_neg (by omega)]; exact tL_put2 I L _ _, rfl, rfl⟩ dJ5_append_c97b9_54

theorem c_J5_ai (l : Launch) (nW : Nat) (D : va_G) (cA : Nat → ClassId) (ad K V : Nat → Nat) (tO tT : Nat) (hi : inj nW ad) (hNW : 102 ≤ nW) (I : SI) (J : SJ) (X : SX) (sz : Nat) (L : List Nat) (hc : I 100 1 = 0) (k : Nat) (hk : k < 100) (h16 : L.length + 1 < 16) : Met l yJ5_append_c97b9 wsJ5_append_c97b9 ({ frames := 1, cells := 0, slots := 0, locals := 26 }) (va_Pc [.ref (ad 100), .int (nI (k))] (wPreL nW D cA ad K V tO tT (tL I L) J X sz)) (qA nW D cA ad sz (ad 100) (tL I (L ++ dg k)) J X) 0 0 (fr nW ad sz) := by
  by_cases h : k < 10
  · exact c_J5_ai1 l nW D cA ad K V tO tT hi hNW I J X sz L hc k h (by omega)
  · exact c_J5_ai2 l nW D cA ad K V tO tT hi hNW I J X sz L hc k (by omega) hk h16

theorem inJ4_append_cf468_J4 : ∀ w ∈ wsJ40, w ∈ wsJ4_append_cf468 := by decide +kernel
set_option maxHeartbeats 4000000 in
set_option maxRecDepth 100000 in
/-- J4_append_cf468 -/
theorem c_J4_append_cf468 (l : Launch) (nW : Nat) (D : va_G) (cA : Nat → ClassId) (ad K V : Nat → Nat) (tO tT : Nat) (hi : inj nW ad) (hNW : 102 ≤ nW) (I : SI) (J : SJ) (X : SX) (sz : Nat) (L : List Nat) (hc : I 100 1 = 0) (k : Nat) (hk : k < 128) (h16 : L.length < 16) : Met l yJ4_append_cf468 wsJ4_append_cf468 ({ frames := 2, cells := 0, slots := 0, locals := 43 }) (va_Pc [.ref (ad 100), .int (nI (k))] (wPreL nW D cA ad K V tO tT (tL I L) J X sz)) (qA nW D cA ad sz (ad 100) (tL I (L ++ [k])) J X) 0 0 (fr nW ad sz) := by
  refine Met.ofW (cc := cJ4_append_cf468) (maxL := 2) (ret := (some (.object "java/lang/StringBuilder"))) (by decide) rfl ?_
  intro p e s m args below meth c s₁ B hml hv
  obtain ⟨rfl, ⟨rfl, hP, hK⟩, hL⟩ := hv
  have hx := B.exec
  have hb := B.bytes
  have hr := B.returns
  have hts := atoms_spec (ws := wsJ4_append_cf468) B.pre
  have hown : s.vm.findClass RJ4 = some m.cls := findClass_of_methodNamed B.named
  have hlocks := B.notSynchronized
  have hS : va_S (fr nW ad s.heap.size) s.heap s.heap [] := va_S.rf
  have hA : ∀ k, k < nW → fr nW ad s.heap.size (ad k) := fr_ad
  have hl := lv_entry ([.ref (ad 100), .int (nI (k))]) (n := 2) (Nat.le_of_ble_eq_true rfl)
  rw [lg_entry_eq]
  generalize (lg_sl ([.ref (ad 100), .int (nI (k))]) ++ List.replicate (2 - (lg_sl ([.ref (ad 100), .int (nI (k))])).length) Slot.unset).toArray = ls at hl ⊢
  have hl : lv_has ls 2 [(0, .ref (ad 100)), (1, .int (nI (k)))] := hl
  suffices Z9 : ∀ (H : Heap) (locs : List Loc), WP nW D cA ad (tL I L) J X H → va_S (fr nW ad s.heap.size) s.heap H locs → W p l e (headSpec wsJ4_append_cf468 ({ frames := 2, cells := 0, slots := 0, locals := 43 })).room s m ([.ref (ad 100), .int (nI (k))] : List Value).toArray below meth c H locs 0 0 (MQ below (qA nW D cA ad s.heap.size (ad 100) (tL I (L ++ [k])) J X) ([.ref (ad 100), .int (nI (k))] : List Value).toArray s 0 0 (fr nW ad s.heap.size)) (F0 m 0 ls []) from Z9 _ _ hP hS
  clear hP hS
  intro H locs hP hS
  refine lv_aload_n hx hb dJ4_append_cf468_0 rfl (lv_at hl 0 rfl) ?_
  refine lv_iload_n hx hb dJ4_append_cf468_1 rfl (lv_at hl 1 rfl) ?_
  have hat : ClassAt s RJ4 (D.1 1) := ⟨(hK.1 1 _ rfl).2.1, (hK.1 1 _ rfl).2.2⟩
  refine w_callr (va_runSU (As := [.int (nI (k))]) (rest := []) hat ⟨hx, hb, hml, hown, hts⟩ (c_J5_append_3fe6f l nW D cA ad K V tO tT hi hNW I J X H.size L hc k (by omega) (by first | omega | (simp only [List.length_append, List.length_cons, List.length_nil]; omega))) (va_cwSU 1 hts gJ4_append_cf468_J5_append_3fe6f_s50 rfl rfl rfl (by decide +kernel) ⟨Nat.le_of_ble_eq_true rfl, Nat.le_of_ble_eq_true rfl⟩) (w_preVL hK hP hL hS 100 (by omega) ⟨rfl, rfl⟩ rfl) rfl rfl hl.1 rfl (lv_room (Nat.le_of_ble_eq_true rfl)) dJ4_append_cf468_2 ⟨Nat.le_of_ble_eq_true rfl, Nat.le_of_ble_eq_true rfl⟩) hS (fun H locs hP hS => ?_)
  refine lv_pop hx hb dJ4_append_cf468_5 rfl ?_
  refine lv_aload_n hx hb dJ4_append_cf468_6 rfl (lv_at hl 0 rfl) ?_
  exact w_aret hx hb hr ⟨_, rfl⟩ hlocks hK hP hS ⟨by subst_vars; rfl, by subst_vars; rfl, by subst_vars; rfl, by subst_vars; rfl⟩ dJ4_append_cf468_7

theorem inJ4_append_bf812_J4 : ∀ w ∈ wsJ40, w ∈ wsJ4_append_bf812 := by decide +kernel
set_option maxHeartbeats 4000000 in
set_option maxRecDepth 100000 in
/-- J4_append_bf812 -/
theorem c_J4_append_bf812 (l : Launch) (nW : Nat) (D : va_G) (cA : Nat → ClassId) (ad K V : Nat → Nat) (tO tT : Nat) (hi : inj nW ad) (hNW : 102 ≤ nW) (I : SI) (J : SJ) (X : SX) (sz : Nat) (L : List Nat) (hc : I 100 1 = 0) (k : Nat) (hk : k < 100) (h16 : L.length + 1 < 16) : Met l yJ4_append_bf812 wsJ4_append_bf812 ({ frames := 2, cells := 0, slots := 0, locals := 49 }) (va_Pc [.ref (ad 100), .int (nI (k))] (wPreL nW D cA ad K V tO tT (tL I L) J X sz)) (qA nW D cA ad sz (ad 100) (tL I (L ++ dg k)) J X) 0 0 (fr nW ad sz) := by
  refine Met.ofW (cc := cJ4_append_bf812) (maxL := 2) (ret := (some (.object "java/lang/StringBuilder"))) (by decide) rfl ?_
  intro p e s m args below meth c s₁ B hml hv
  obtain ⟨rfl, ⟨rfl, hP, hK⟩, hL⟩ := hv
  have hx := B.exec
  have hb := B.bytes
  have hr := B.returns
  have hts := atoms_spec (ws := wsJ4_append_bf812) B.pre
  have hown : s.vm.findClass RJ4 = some m.cls := findClass_of_methodNamed B.named
  have hlocks := B.notSynchronized
  have hS : va_S (fr nW ad s.heap.size) s.heap s.heap [] := va_S.rf
  have hA : ∀ k, k < nW → fr nW ad s.heap.size (ad k) := fr_ad
  have hl := lv_entry ([.ref (ad 100), .int (nI (k))]) (n := 2) (Nat.le_of_ble_eq_true rfl)
  rw [lg_entry_eq]
  generalize (lg_sl ([.ref (ad 100), .int (nI (k))]) ++ List.replicate (2 - (lg_sl ([.ref (ad 100), .int (nI (k))])).length) Slot.unset).toArray = ls at hl ⊢
  have hl : lv_has ls 2 [(0, .ref (ad 100)), (1, .int (nI (k)))] := hl
  suffices Z9 : ∀ (H : Heap) (locs : List Loc), WP nW D cA ad (tL I L) J X H → va_S (fr nW ad s.heap.size) s.heap H locs → W p l e (headSpec wsJ4_append_bf812 ({ frames := 2, cells := 0, slots := 0, locals := 49 })).room s m ([.ref (ad 100), .int (nI (k))] : List Value).toArray below meth c H locs 0 0 (MQ below (qA nW D cA ad s.heap.size (ad 100) (tL I (L ++ dg k)) J X) ([.ref (ad 100), .int (nI (k))] : List Value).toArray s 0 0 (fr nW ad s.heap.size)) (F0 m 0 ls []) from Z9 _ _ hP hS
  clear hP hS
  intro H locs hP hS
  refine lv_aload_n hx hb dJ4_append_bf812_0 rfl (lv_at hl 0 rfl) ?_
  refine lv_iload_n hx hb dJ4_append_bf812_1 rfl (lv_at hl 1 rfl) ?_
  have hat : ClassAt s RJ4 (D.1 1) := ⟨(hK.1 1 _ rfl).2.1, (hK.1 1 _ rfl).2.2⟩
  refine w_callr (va_runSU (As := [.int (nI (k))]) (rest := []) hat ⟨hx, hb, hml, hown, hts⟩ (c_J5_ai l nW D cA ad K V tO tT hi hNW I J X H.size L hc k (by omega) (by first | omega | (simp only [List.length_append, List.length_cons, List.length_nil]; omega))) (va_cwSU 1 hts gJ4_append_bf812_J5_append_c97b9_s53 rfl rfl rfl (by decide +kernel) ⟨Nat.le_of_ble_eq_true rfl, Nat.le_of_ble_eq_true rfl⟩) (w_preVL hK hP hL hS 100 (by omega) ⟨rfl, rfl⟩ rfl) rfl rfl hl.1 rfl (lv_room (Nat.le_of_ble_eq_true rfl)) dJ4_append_bf812_2 ⟨Nat.le_of_ble_eq_true rfl, Nat.le_of_ble_eq_true rfl⟩) hS (fun H locs hP hS => ?_)
  refine lv_pop hx hb dJ4_append_bf812_5 rfl ?_
  refine lv_aload_n hx hb dJ4_append_bf812_6 rfl (lv_at hl 0 rfl) ?_
  exact w_aret hx hb hr ⟨_, rfl⟩ hlocks hK hP hS ⟨by subst_vars; rfl, by subst_vars; rfl, by subst_vars; rfl, by subst_vars; rfl⟩ dJ4_append_bf812_7

set_option maxHeartbeats 4000000 in
set_option maxRecDepth 100000 in
/-- J0_coder_7d493 -/
theorem c_J0_coder_7d493 (l : Launch) (nW : Nat) (D : va_G) (cA : Nat → ClassId) (ad K V : Nat → Nat) (tO tT : Nat) (hi : inj nW ad) (hNW : 102 ≤ nW) (I : SI) (J : SJ) (X : SX) (sz : Nat) (i : Nat) (hi9 : i < 9) : Met l yJ0_coder_7d493 wsJ0_coder_7d493 ({ frames := 0, cells := 0, slots := 0, locals := 0 }) (va_Pc [.ref (K i)] (wPreL nW D cA ad K V tO tT I J X sz)) (qI nW D cA ad sz (0) I J X) 0 0 (fr nW ad sz) := by
  refine Met.ofW (cc := cJ0_coder_7d493) (maxL := 1) (ret := (some .byte)) (by decide) rfl ?_
  intro p e s m args below meth c s₁ B hml hv
  obtain ⟨rfl, ⟨rfl, hP, hK⟩, hL⟩ := hv
  have hx := B.exec
  have hb := B.bytes
  have hr := B.returns
  have hts := atoms_spec (ws := wsJ0_coder_7d493) B.pre
  have hown : s.vm.findClass RJ0 = some m.cls := findClass_of_methodNamed B.named
  have hlocks := B.notSynchronized
  have hS : va_S (fr nW ad s.heap.size) s.heap s.heap [] := va_S.rf
  have hA : ∀ k, k < nW → fr nW ad s.heap.size (ad k) := fr_ad
  have hl := lv_entry ([.ref (K i)]) (n := 1) (Nat.le_of_ble_eq_true rfl)
  rw [lg_entry_eq]
  generalize (lg_sl ([.ref (K i)]) ++ List.replicate (1 - (lg_sl ([.ref (K i)])).length) Slot.unset).toArray = ls at hl ⊢
  have hl : lv_has ls 1 [(0, .ref (K i))] := hl
  suffices Z9 : ∀ (H : Heap) (locs : List Loc), WP nW D cA ad I J X H → va_S (fr nW ad s.heap.size) s.heap H locs → W p l e (headSpec wsJ0_coder_7d493 ({ frames := 0, cells := 0, slots := 0, locals := 0 })).room s m ([.ref (K i)] : List Value).toArray below meth c H locs 0 0 (MQ below (qI nW D cA ad s.heap.size (0) I J X) ([.ref (K i)] : List Value).toArray s 0 0 (fr nW ad s.heap.size)) (F0 m 0 ls []) from Z9 _ _ hP hS
  clear hP hS
  intro H locs hP hS
  refine va_gets hx hb (hL.1) hS hown (hts (.fieldLink RJ0 38 "java/lang/String" "COMPACT_STRINGS" "Z") (List.mem_of_getElem? (i := 1) rfl)) (fun _ h9 => h9) dJ0_coder_7d493_0 ?_
  refine lv_if_eq (tgt := 13) hx hb dJ0_coder_7d493_3 (by decide) (fun c3 => ?_) (fun c3 => ?_)
  · have qc3 : 1 = 0 := (wn_eq (a := 1) (b := 0) rfl rfl (by omega) (by omega)).mp c3
    exact absurd qc3 (by omega)
  · have qc3 : ¬ 1 = 0 := fun z => c3 ((wn_eq (a := 1) (b := 0) rfl rfl (by omega) (by omega)).mpr z)
    refine lv_aload_n hx hb dJ0_coder_7d493_6 rfl (lv_at hl 0 rfl) ?_
    refine vk_getf hx hb (hL.2.2.2.2 i (by omega)).2.1 hS hown (hts (.fieldLink RJ0 15 "java/lang/String" "coder" "B") (List.mem_of_getElem? (i := 2) rfl)) (fun _ h9 => h9) dJ0_coder_7d493_7 ?_
    refine lv_goto (tgt := 14) hx hb dJ0_coder_7d493_10 (by decide) ?_
    exact w_zret hx hb hr rfl hlocks hK hP hS ⟨by subst_vars; rfl, by subst_vars; rfl, by subst_vars; rfl, by subst_vars; rfl⟩ dJ0_coder_7d493_14

set_option maxHeartbeats 4000000 in
set_option maxRecDepth 100000 in
/-- J0_length_8abf5 -/
theorem c_J0_length_8abf5 (l : Launch) (nW : Nat) (D : va_G) (cA : Nat → ClassId) (ad K V : Nat → Nat) (tO tT : Nat) (hi : inj nW ad) (hNW : 102 ≤ nW) (I : SI) (J : SJ) (X : SX) (sz : Nat) (i : Nat) (hi9 : i < 9) : Met l yJ0_length_8abf5 wsJ0_length_8abf5 ({ frames := 1, cells := 0, slots := 0, locals := 20 }) (va_Pc [.ref (K i)] (wPreL nW D cA ad K V tO tT I J X sz)) (qI nW D cA ad sz (nI (liN i)) I J X) 0 0 (fr nW ad sz) := by
  refine Met.ofW (cc := cJ0_length_8abf5) (maxL := 1) (ret := (some .int)) (by decide) rfl ?_
  intro p e s m args below meth c s₁ B hml hv
  obtain ⟨rfl, ⟨rfl, hP, hK⟩, hL⟩ := hv
  have hx := B.exec
  have hb := B.bytes
  have hr := B.returns
  have hts := atoms_spec (ws := wsJ0_length_8abf5) B.pre
  have hown : s.vm.findClass RJ0 = some m.cls := findClass_of_methodNamed B.named
  have hlocks := B.notSynchronized
  have hS : va_S (fr nW ad s.heap.size) s.heap s.heap [] := va_S.rf
  have hA : ∀ k, k < nW → fr nW ad s.heap.size (ad k) := fr_ad
  have hl := lv_entry ([.ref (K i)]) (n := 1) (Nat.le_of_ble_eq_true rfl)
  rw [lg_entry_eq]
  generalize (lg_sl ([.ref (K i)]) ++ List.replicate (1 - (lg_sl ([.ref (K i)])).length) Slot.unset).toArray = ls at hl ⊢
  have hl : lv_has ls 1 [(0, .ref (K i))] := hl
  suffices Z9 : ∀ (H : Heap) (locs : List Loc), WP nW D cA ad I J X H → va_S (fr nW ad s.heap.size) s.heap H locs → W p l e (headSpec wsJ0_length_8abf5 ({ frames := 1, cells := 0, slots := 0, locals := 20 })).room s m ([.ref (K i)] : List Value).toArray below meth c H locs 0 0 (MQ below (qI nW D cA ad s.heap.size (nI (liN i)) I J X) ([.ref (K i)] : List Value).toArray s 0 0 (fr nW ad s.heap.size)) (F0 m 0 ls []) from Z9 _ _ hP hS
  clear hP hS
  intro H locs hP hS
  have h7 := liN_le i hi9
  refine lv_aload_n hx hb dJ0_length_8abf5_0 rfl (lv_at hl 0 rfl) ?_
  refine vk_getf hx hb (hL.2.2.2.2 i (by omega)).2.2.1 hS hown (hts (.fieldLink RJ0 9 "java/lang/String" "value" "[B") (List.mem_of_getElem? (i := 1) rfl)) (fun _ h9 => h9) dJ0_length_8abf5_1 ?_
  refine va_tlen (v := nI (liN i)) hx hb (hL.2.2.2.2 i (by omega)).2.2.2.1 hS rfl dJ0_length_8abf5_4 ?_
  refine lv_aload_n hx hb dJ0_length_8abf5_5 rfl (lv_at hl 0 rfl) ?_
  refine w_calli (va_runV (As := []) (rest := [.int (nI (liN i))]) ⟨hx, hb, hml, hown, hts⟩ (c_J0_coder_7d493 l nW D cA ad K V tO tT hi hNW I J X H.size i (by omega)) (cwV 0 hts gJ0_length_8abf5_J0_coder_7d493 rfl rfl rfl (by decide +kernel) ⟨Nat.le_of_ble_eq_true rfl, Nat.le_of_ble_eq_true rfl⟩) (w_preLi hK hP hL hS i (by omega)) rfl rfl hl.1 rfl (lv_room (Nat.le_of_ble_eq_true rfl)) dJ0_length_8abf5_6 ⟨Nat.le_of_ble_eq_true rfl, Nat.le_of_ble_eq_true rfl⟩) hS (fun H locs hP hS => ?_)
  refine lv_ishr hx hb dJ0_length_8abf5_9 ?_
  refine w_topN (a := (liN i)) ((sh_r0 _).trans rfl) ?_
  exact w_iret hx hb hr hlocks hK hP hS ⟨by subst_vars; rfl, by subst_vars; rfl, by subst_vars; rfl, by subst_vars; rfl⟩ dJ0_length_8abf5_10

set_option maxHeartbeats 4000000 in
set_option maxRecDepth 100000 in
/-- J0_getBytes_840e7 -/
theorem c_J0_getBytes_840e7 (l : Launch) (nW : Nat) (D : va_G) (cA : Nat → ClassId) (ad K V : Nat → Nat) (tO tT : Nat) (hi : inj nW ad) (hNW : 102 ≤ nW) (I : SI) (J : SJ) (X : SX) (sz : Nat) (i : Nat) (hi9 : i < 9) (n : Nat) (hn : n + liN i ≤ 16) : Met l yJ0_getBytes_840e7 wsJ0_getBytes_840e7 ({ frames := 1, cells := 0, slots := 0, locals := 40 }) (va_Pc [.ref (K i), .ref (ad 101), .int (nI (n)), .int (0)] (wPreL nW D cA ad K V tO tT I J X sz)) (qV nW D cA ad sz (st1 I 101 (va_cpy (liC i) (I 101) 0 n (liN i))) J X) 0 0 (fr nW ad sz) := by
  refine Met.ofW (cc := cJ0_getBytes_840e7) (maxL := 4) (ret := none) (by decide) rfl ?_
  intro p e s m args below meth c s₁ B hml hv
  obtain ⟨rfl, ⟨rfl, hP, hK⟩, hL⟩ := hv
  have hx := B.exec
  have hb := B.bytes
  have hr := B.returns
  have hts := atoms_spec (ws := wsJ0_getBytes_840e7) B.pre
  have hown : s.vm.findClass RJ0 = some m.cls := findClass_of_methodNamed B.named
  have hlocks := B.notSynchronized
  have hS : va_S (fr nW ad s.heap.size) s.heap s.heap [] := va_S.rf
  have hA : ∀ k, k < nW → fr nW ad s.heap.size (ad k) := fr_ad
  have hl := lv_entry ([.ref (K i), .ref (ad 101), .int (nI (n)), .int (0)]) (n := 4) (Nat.le_of_ble_eq_true rfl)
  rw [lg_entry_eq]
  generalize (lg_sl ([.ref (K i), .ref (ad 101), .int (nI (n)), .int (0)]) ++ List.replicate (4 - (lg_sl ([.ref (K i), .ref (ad 101), .int (nI (n)), .int (0)])).length) Slot.unset).toArray = ls at hl ⊢
  have hl : lv_has ls 4 [(0, .ref (K i)), (1, .ref (ad 101)), (2, .int (nI (n))), (3, .int (0))] := hl
  suffices Z9 : ∀ (H : Heap) (locs : List Loc), WP nW D cA ad I J X H → va_S (fr nW ad s.heap.size) s.heap H locs → W p l e (headSpec wsJ0_getBytes_840e7 ({ frames := 1, cells := 0, slots := 0, locals := 40 })).room s m ([.ref (K i), .ref (ad 101), .int (nI (n)), .int (0)] : List Value).toArray below meth c H locs 0 0 (MQ below (qV nW D cA ad s.heap.size (st1 I 101 (va_cpy (liC i) (I 101) 0 n (liN i))) J X) ([.ref (K i), .ref (ad 101), .int (nI (n)), .int (0)] : List Value).toArray s 0 0 (fr nW ad s.heap.size)) (F0 m 0 ls []) from Z9 _ _ hP hS
  clear hP hS
  intro H locs hP hS
  have h7 := liN_le i hi9
  refine lv_aload_n hx hb dJ0_getBytes_840e7_0 rfl (lv_at hl 0 rfl) ?_
  refine w_calli (va_runV (As := []) (rest := []) ⟨hx, hb, hml, hown, hts⟩ (c_J0_coder_7d493 l nW D cA ad K V tO tT hi hNW I J X H.size i (by omega)) (cwV 0 hts gJ0_getBytes_840e7_J0_coder_7d493 rfl rfl rfl (by decide +kernel) ⟨Nat.le_of_ble_eq_true rfl, Nat.le_of_ble_eq_true rfl⟩) (w_preLi hK hP hL hS i (by omega)) rfl rfl hl.1 rfl (lv_room (Nat.le_of_ble_eq_true rfl)) dJ0_getBytes_840e7_1 ⟨Nat.le_of_ble_eq_true rfl, Nat.le_of_ble_eq_true rfl⟩) hS (fun H locs hP hS => ?_)
  refine lv_iload_n hx hb dJ0_getBytes_840e7_4 rfl (lv_at hl 3 rfl) ?_
  refine lv_icmp_ne (tgt := 28) hx hb dJ0_getBytes_840e7_5 (by decide) (fun c5 => ?_) (fun c5 => ?_)
  · have qc5 : ¬ 0 = 0 := fun z => c5 ((wn_eq (a := 0) (b := 0) rfl rfl (by omega) (by omega)).mpr z)
    exact absurd qc5 (by omega)
  · have qc5 : 0 = 0 := (wn_eq (a := 0) (b := 0) rfl rfl (by omega) (by omega)).mp c5
    refine lv_aload_n hx hb dJ0_getBytes_840e7_8 rfl (lv_at hl 0 rfl) ?_
    refine vk_getf hx hb (hL.2.2.2.2 i (by omega)).2.2.1 hS hown (hts (.fieldLink RJ0 9 "java/lang/String" "value" "[B") (List.mem_of_getElem? (i := 1) rfl)) (fun _ h9 => h9) dJ0_getBytes_840e7_9 ?_
    refine lv_iconst (v := 0) hx hb dJ0_getBytes_840e7_12 (by decide) ?_
    refine lv_aload_n hx hb dJ0_getBytes_840e7_13 rfl (lv_at hl 1 rfl) ?_
    refine lv_iload_n hx hb dJ0_getBytes_840e7_14 rfl (lv_at hl 2 rfl) ?_
    refine lv_iload_n hx hb dJ0_getBytes_840e7_15 rfl (lv_at hl 3 rfl) ?_
    refine lv_ishl hx hb dJ0_getBytes_840e7_16 ?_
    refine w_topN (a := n) ((sh_l0 _).trans rfl) ?_
    refine lv_aload_n hx hb dJ0_getBytes_840e7_17 rfl (lv_at hl 0 rfl) ?_
    refine vk_getf hx hb (hL.2.2.2.2 i (by omega)).2.2.1 hS hown (hts (.fieldLink RJ0 9 "java/lang/String" "value" "[B") (List.mem_of_getElem? (i := 1) rfl)) (fun _ h9 => h9) dJ0_getBytes_840e7_18 ?_
    refine va_tlen (v := nI (liN i)) hx hb (hL.2.2.2.2 i (by omega)).2.2.2.1 hS rfl dJ0_getBytes_840e7_21 ?_
    refine w_cpy hx hb (hml.trans hl.1.symm) hown (hts (.methodLink RJ0 212 arraycopyName) (List.mem_of_getElem? (i := 2) rfl)) (hts (.native arraycopyName) (List.mem_of_getElem? (i := 3) rfl)) (hts (.static arraycopyName) (List.mem_of_getElem? (i := 4) rfl)) (hts (.initialized "java/lang/System") (List.mem_of_getElem? (i := 5) rfl)) hK hP hi hA hS (by omega) (by omega) (hL.2.2.2.2 i (by omega)) rfl rfl (Nat.le_refl _) (by omega) (Nat.le_of_ble_eq_true rfl) (Nat.le_of_ble_eq_true rfl) dJ0_getBytes_840e7_22 (fun H locs hP hS => ?_)
    obtain ⟨I_1, eI_1⟩ : ∃ y, y = st1 I 101 (va_cpy (liC i) (I 101) 0 (n) (liN i)) := ⟨_, rfl⟩
    have hP : WP nW D cA ad I_1 J X H := by rw [eI_1]; exact hP
    refine lv_goto (tgt := 43) hx hb dJ0_getBytes_840e7_25 (by decide) ?_
    exact w_vret hx hb hr hlocks hK hP hS ⟨by subst_vars; rfl, by subst_vars; rfl, by subst_vars; rfl⟩ dJ0_getBytes_840e7_43

theorem inJ5_inflateIfNeededFor_a7421_J4 : ∀ w ∈ wsJ40, w ∈ wsJ5_inflateIfNeededFor_a7421 := by decide +kernel
set_option maxHeartbeats 4000000 in
set_option maxRecDepth 100000 in
/-- J5_inflateIfNeededFor_a7421 -/
theorem c_J5_inflateIfNeededFor_a7421 (l : Launch) (nW : Nat) (D : va_G) (cA : Nat → ClassId) (ad K V : Nat → Nat) (tO tT : Nat) (hi : inj nW ad) (hNW : 102 ≤ nW) (I : SI) (J : SJ) (X : SX) (sz : Nat) (i : Nat) (hi9 : i < 9) (hc : I 100 1 = 0) : Met l yJ5_inflateIfNeededFor_a7421 wsJ5_inflateIfNeededFor_a7421 ({ frames := 1, cells := 0, slots := 0, locals := 20 }) (va_Pc [.ref (ad 100), .ref (K i)] (wPreL nW D cA ad K V tO tT I J X sz)) (qV nW D cA ad sz I J X) 0 0 (fr nW ad sz) := by
  refine Met.ofW (cc := cJ5_inflateIfNeededFor_a7421) (maxL := 2) (ret := none) (by decide) rfl ?_
  intro p e s m args below meth c s₁ B hml hv
  obtain ⟨rfl, ⟨rfl, hP, hK⟩, hL⟩ := hv
  have hx := B.exec
  have hb := B.bytes
  have hr := B.returns
  have hts := atoms_spec (ws := wsJ5_inflateIfNeededFor_a7421) B.pre
  have hown : s.vm.findClass RJ5 = some m.cls := findClass_of_methodNamed B.named
  have hlocks := B.notSynchronized
  have hS : va_S (fr nW ad s.heap.size) s.heap s.heap [] := va_S.rf
  have hA : ∀ k, k < nW → fr nW ad s.heap.size (ad k) := fr_ad
  have hl := lv_entry ([.ref (ad 100), .ref (K i)]) (n := 2) (Nat.le_of_ble_eq_true rfl)
  rw [lg_entry_eq]
  generalize (lg_sl ([.ref (ad 100), .ref (K i)]) ++ List.replicate (2 - (lg_sl ([.ref (ad 100), .ref (K i)])).length) Slot.unset).toArray = ls at hl ⊢
  have hl : lv_has ls 2 [(0, .ref (ad 100)), (1, .ref (K i))] := hl
  suffices Z9 : ∀ (H : Heap) (locs : List Loc), WP nW D cA ad I J X H → va_S (fr nW ad s.heap.size) s.heap H locs → W p l e (headSpec wsJ5_inflateIfNeededFor_a7421 ({ frames := 1, cells := 0, slots := 0, locals := 20 })).room s m ([.ref (ad 100), .ref (K i)] : List Value).toArray below meth c H locs 0 0 (MQ below (qV nW D cA ad s.heap.size I J X) ([.ref (ad 100), .ref (K i)] : List Value).toArray s 0 0 (fr nW ad s.heap.size)) (F0 m 0 ls []) from Z9 _ _ hP hS
  clear hP hS
  intro H locs hP hS
  refine va_gets hx hb (hL.1) hS hown (hts (.fieldLink RJ5 18 "java/lang/String" "COMPACT_STRINGS" "Z") (List.mem_of_getElem? (i := 1) rfl)) (fun _ h9 => h9) dJ5_inflateIfNeededFor_a7421_0 ?_
  refine lv_if_eq (tgt := 21) hx hb dJ5_inflateIfNeededFor_a7421_3 (by decide) (fun c3 => ?_) (fun c3 => ?_)
  · have qc3 : 1 = 0 := (wn_eq (a := 1) (b := 0) rfl rfl (by omega) (by omega)).mp c3
    exact absurd qc3 (by omega)
  · have qc3 : ¬ 1 = 0 := fun z => c3 ((wn_eq (a := 1) (b := 0) rfl rfl (by omega) (by omega)).mpr z)
    refine lv_aload_n hx hb dJ5_inflateIfNeededFor_a7421_6 rfl (lv_at hl 0 rfl) ?_
    refine w_lget (v := .int (I 100 1)) hx hb hts inJ5_inflateIfNeededFor_a7421_J4 hown hK hP (by omega) 1 (by decide) rfl (List.mem_of_getElem? (i := 2) rfl) (fun _ h9 => h9) dJ5_inflateIfNeededFor_a7421_7 ?_
    refine w_topN (a := 0) hc ?_
    refine lv_aload_n hx hb dJ5_inflateIfNeededFor_a7421_10 rfl (lv_at hl 1 rfl) ?_
    refine w_calli (va_runV (As := []) (rest := [.int (nI (0))]) ⟨hx, hb, hml, hown, hts⟩ (c_J0_coder_7d493 l nW D cA ad K V tO tT hi hNW I J X H.size i (by omega)) (cwV 0 hts gJ5_inflateIfNeededFor_a7421_J0_coder_7d493 rfl rfl rfl (by decide +kernel) ⟨Nat.le_of_ble_eq_true rfl, Nat.le_of_ble_eq_true rfl⟩) (w_preLi hK hP hL hS i (by omega)) rfl rfl hl.1 rfl (lv_room (Nat.le_of_ble_eq_true rfl)) dJ5_inflateIfNeededFor_a7421_11 ⟨Nat.le_of_ble_eq_true rfl, Nat.le_of_ble_eq_true rfl⟩) hS (fun H locs hP hS => ?_)
    refine lv_icmp_eq (tgt := 21) hx hb dJ5_inflateIfNeededFor_a7421_14 (by decide) (fun c14 => ?_) (fun c14 => ?_)
    · have qc14 : 0 = 0 := (wn_eq (a := 0) (b := 0) rfl rfl (by omega) (by omega)).mp c14
      exact w_vret hx hb hr hlocks hK hP hS ⟨by subst_vars; rfl, by subst_vars; rfl, by subst_vars; rfl⟩ dJ5_inflateIfNeededFor_a7421_21
    · have qc14 : ¬ 0 = 0 := fun z => c14 ((wn_eq (a := 0) (b := 0) rfl rfl (by omega) (by omega)).mpr z)
      exact absurd rfl qc14

theorem inJ5_putStringAt_47b60_J4 : ∀ w ∈ wsJ40, w ∈ wsJ5_putStringAt_47b60 := by decide +kernel
set_option maxHeartbeats 4000000 in
set_option maxRecDepth 100000 in
/-- J5_putStringAt_47b60 -/
theorem c_J5_putStringAt_47b60 (l : Launch) (nW : Nat) (D : va_G) (cA : Nat → ClassId) (ad K V : Nat → Nat) (tO tT : Nat) (hi : inj nW ad) (hNW : 102 ≤ nW) (I : SI) (J : SJ) (X : SX) (sz : Nat) (i : Nat) (hi9 : i < 9) (n : Nat) (hn : n + liN i ≤ 16) (hc : I 100 1 = 0) : Met l yJ5_putStringAt_47b60 wsJ5_putStringAt_47b60 ({ frames := 2, cells := 0, slots := 0, locals := 63 }) (va_Pc [.ref (ad 100), .int (nI (n)), .ref (K i)] (wPreL nW D cA ad K V tO tT I J X sz)) (qV nW D cA ad sz (st1 I 101 (va_cpy (liC i) (I 101) 0 n (liN i))) J X) 0 0 (fr nW ad sz) := by
  refine Met.ofW (cc := cJ5_putStringAt_47b60) (maxL := 3) (ret := none) (by decide) rfl ?_
  intro p e s m args below meth c s₁ B hml hv
  obtain ⟨rfl, ⟨rfl, hP, hK⟩, hL⟩ := hv
  have hx := B.exec
  have hb := B.bytes
  have hr := B.returns
  have hts := atoms_spec (ws := wsJ5_putStringAt_47b60) B.pre
  have hown : s.vm.findClass RJ5 = some m.cls := findClass_of_methodNamed B.named
  have hlocks := B.notSynchronized
  have hS : va_S (fr nW ad s.heap.size) s.heap s.heap [] := va_S.rf
  have hA : ∀ k, k < nW → fr nW ad s.heap.size (ad k) := fr_ad
  have hl := lv_entry ([.ref (ad 100), .int (nI (n)), .ref (K i)]) (n := 3) (Nat.le_of_ble_eq_true rfl)
  rw [lg_entry_eq]
  generalize (lg_sl ([.ref (ad 100), .int (nI (n)), .ref (K i)]) ++ List.replicate (3 - (lg_sl ([.ref (ad 100), .int (nI (n)), .ref (K i)])).length) Slot.unset).toArray = ls at hl ⊢
  have hl : lv_has ls 3 [(0, .ref (ad 100)), (1, .int (nI (n))), (2, .ref (K i))] := hl
  suffices Z9 : ∀ (H : Heap) (locs : List Loc), WP nW D cA ad I J X H → va_S (fr nW ad s.heap.size) s.heap H locs → W p l e (headSpec wsJ5_putStringAt_47b60 ({ frames := 2, cells := 0, slots := 0, locals := 63 })).room s m ([.ref (ad 100), .int (nI (n)), .ref (K i)] : List Value).toArray below meth c H locs 0 0 (MQ below (qV nW D cA ad s.heap.size (st1 I 101 (va_cpy (liC i) (I 101) 0 n (liN i))) J X) ([.ref (ad 100), .int (nI (n)), .ref (K i)] : List Value).toArray s 0 0 (fr nW ad s.heap.size)) (F0 m 0 ls []) from Z9 _ _ hP hS
  clear hP hS
  intro H locs hP hS
  refine lv_aload_n hx hb dJ5_putStringAt_47b60_0 rfl (lv_at hl 0 rfl) ?_
  refine lv_aload_n hx hb dJ5_putStringAt_47b60_1 rfl (lv_at hl 2 rfl) ?_
  refine w_callv (va_runU (As := [.ref (K i)]) (rest := []) ⟨hx, hb, hml, hown, hts⟩ (c_J5_inflateIfNeededFor_a7421 l nW D cA ad K V tO tT hi hNW I J X H.size i (by omega) hc) (va_cwU 1 hts gJ5_putStringAt_47b60_J5_inflateIfNeededFor_a7421_u397J4 rfl rfl rfl rfl (by decide +kernel) ⟨Nat.le_of_ble_eq_true rfl, Nat.le_of_ble_eq_true rfl⟩) (w_preVL hK hP hL hS 100 (by omega) ⟨rfl, rfl⟩ rfl) rfl rfl hl.1 rfl (lv_room (Nat.le_of_ble_eq_true rfl)) dJ5_putStringAt_47b60_2 ⟨Nat.le_of_ble_eq_true rfl, Nat.le_of_ble_eq_true rfl⟩) hS (fun H locs hP hS => ?_)
  refine lv_aload_n hx hb dJ5_putStringAt_47b60_5 rfl (lv_at hl 2 rfl) ?_
  refine lv_aload_n hx hb dJ5_putStringAt_47b60_6 rfl (lv_at hl 0 rfl) ?_
  refine w_lget (v := .ref (ad 101)) hx hb hts inJ5_putStringAt_47b60_J4 hown hK hP (by omega) 0 (by decide) rfl (List.mem_of_getElem? (i := 1) rfl) (fun _ h9 => h9) dJ5_putStringAt_47b60_7 ?_
  refine lv_iload_n hx hb dJ5_putStringAt_47b60_10 rfl (lv_at hl 1 rfl) ?_
  refine lv_aload_n hx hb dJ5_putStringAt_47b60_11 rfl (lv_at hl 0 rfl) ?_
  refine w_lget (v := .int (I 100 1)) hx hb hts inJ5_putStringAt_47b60_J4 hown hK hP (by omega) 1 (by decide) rfl (List.mem_of_getElem? (i := 2) rfl) (fun _ h9 => h9) dJ5_putStringAt_47b60_12 ?_
  refine w_topN (a := 0) hc ?_
  refine w_callv (va_runV (As := [.ref (ad 101), .int (nI (n)), .int (nI (0))]) (rest := []) ⟨hx, hb, hml, hown, hts⟩ (c_J0_getBytes_840e7 l nW D cA ad K V tO tT hi hNW I J X H.size i (by omega) n (by omega)) (cwV 3 hts gJ5_putStringAt_47b60_J0_getBytes_840e7 rfl rfl rfl (by decide +kernel) ⟨Nat.le_of_ble_eq_true rfl, Nat.le_of_ble_eq_true rfl⟩) (w_preLi hK hP hL hS i (by omega)) rfl rfl hl.1 rfl (lv_room (Nat.le_of_ble_eq_true rfl)) dJ5_putStringAt_47b60_15 ⟨Nat.le_of_ble_eq_true rfl, Nat.le_of_ble_eq_true rfl⟩) hS (fun H locs hP hS => ?_)
  exact w_vret hx hb hr hlocks hK hP hS ⟨by subst_vars; rfl, by subst_vars; rfl, by subst_vars; rfl⟩ dJ5_putStringAt_47b60_18

theorem inJ5_append_cf1ce_J4 : ∀ w ∈ wsJ40, w ∈ wsJ5_append_cf1ce := by decide +kernel
set_option maxHeartbeats 4000000 in
set_option maxRecDepth 100000 in
/-- J5_append_cf1ce -/
theorem c_J5_append_cf1ce (l : Launch) (nW : Nat) (D : va_G) (cA : Nat → ClassId) (ad K V : Nat → Nat) (tO tT : Nat) (hi : inj nW ad) (hNW : 102 ≤ nW) (I : SI) (J : SJ) (X : SX) (sz : Nat) (L : List Nat) (hc : I 100 1 = 0) (i : Nat) (hi9 : i < 9) (h16 : L.length + liN i ≤ 16) : Met l yJ5_append_cf1ce wsJ5_append_cf1ce ({ frames := 3, cells := 0, slots := 0, locals := 85 }) (va_Pc [.ref (ad 100), .ref (K i)] (wPreL nW D cA ad K V tO tT (tL I L) J X sz)) (qA nW D cA ad sz (ad 100) (tL I (L ++ liL i)) J X) 0 0 (fr nW ad sz) := by
  refine Met.ofW (cc := cJ5_append_cf1ce) (maxL := 3) (ret := (some (.object "java/lang/AbstractStringBuilder"))) (by decide) rfl ?_
  intro p e s m args below meth c s₁ B hml hv
  obtain ⟨rfl, ⟨rfl, hP, hK⟩, hL⟩ := hv
  have hx := B.exec
  have hb := B.bytes
  have hr := B.returns
  have hts := atoms_spec (ws := wsJ5_append_cf1ce) B.pre
  have hown : s.vm.findClass RJ5 = some m.cls := findClass_of_methodNamed B.named
  have hlocks := B.notSynchronized
  have hS : va_S (fr nW ad s.heap.size) s.heap s.heap [] := va_S.rf
  have hA : ∀ k, k < nW → fr nW ad s.heap.size (ad k) := fr_ad
  have hl := lv_entry ([.ref (ad 100), .ref (K i)]) (n := 3) (Nat.le_of_ble_eq_true rfl)
  rw [lg_entry_eq]
  generalize (lg_sl ([.ref (ad 100), .ref (K i)]) ++ List.replicate (3 - (lg_sl ([.ref (ad 100), .ref (K i)])).length) Slot.unset).toArray = ls at hl ⊢
  have hl : lv_has ls 3 [(0, .ref (ad 100)), (1, .ref (K i))] := hl
  suffices Z9 : ∀ (H : Heap) (locs : List Loc), WP nW D cA ad (tL I L) J X H → va_S (fr nW ad s.heap.size) s.heap H locs → W p l e (headSpec wsJ5_append_cf1ce ({ frames := 3, cells := 0, slots := 0, locals := 85 })).room s m ([.ref (ad 100), .ref (K i)] : List Value).toArray below meth c H locs 0 0 (MQ below (qA nW D cA ad s.heap.size (ad 100) (tL I (L ++ liL i)) J X) ([.ref (ad 100), .ref (K i)] : List Value).toArray s 0 0 (fr nW ad s.heap.size)) (F0 m 0 ls []) from Z9 _ _ hP hS
  clear hP hS
  intro H locs hP hS
  have h7 := liN_le i hi9
  refine lv_aload_n hx hb dJ5_append_cf1ce_0 rfl (lv_at hl 1 rfl) ?_
  refine lv_ifnonnull (tgt := 9) hx hb dJ5_append_cf1ce_1 (by decide) ?_
  refine lv_aload_n hx hb dJ5_append_cf1ce_9 rfl (lv_at hl 1 rfl) ?_
  refine w_calli (va_runV (As := []) (rest := []) ⟨hx, hb, hml, hown, hts⟩ (c_J0_length_8abf5 l nW D cA ad K V tO tT hi hNW (tL I L) J X H.size i (by omega)) (cwV 0 hts gJ5_append_cf1ce_J0_length_8abf5 rfl rfl rfl (by decide +kernel) ⟨Nat.le_of_ble_eq_true rfl, Nat.le_of_ble_eq_true rfl⟩) (w_preLi hK hP hL hS i (by omega)) rfl rfl hl.1 rfl (lv_room (Nat.le_of_ble_eq_true rfl)) dJ5_append_cf1ce_10 ⟨Nat.le_of_ble_eq_true rfl, Nat.le_of_ble_eq_true rfl⟩) hS (fun H locs hP hS => ?_)
  refine lv_istore_n (lv' := [(2, .int (nI (liN i))), (0, .ref (ad 100)), (1, .ref (K i))]) hx hb dJ5_append_cf1ce_13 rfl hl (by decide) rfl (fun ls hl => ?_)
  refine lv_aload_n hx hb dJ5_append_cf1ce_14 rfl (lv_at hl 1 rfl) ?_
  refine lv_aload_n hx hb dJ5_append_cf1ce_15 rfl (lv_at hl 1 rfl) ?_
  refine w_lget (v := .int ((tL I L) 100 3)) hx hb hts inJ5_append_cf1ce_J4 hown hK hP (by omega) 3 (by decide) rfl (List.mem_of_getElem? (i := 1) rfl) (fun _ h9 => h9) dJ5_append_cf1ce_16 ?_
  refine w_topN (a := L.length) (tL_cnt I L) ?_
  refine lv_iload_n hx hb dJ5_append_cf1ce_19 rfl (lv_at hl 0 rfl) ?_
  refine w_iaddN (a := L.length) (b := (liN i)) hx hb rfl rfl dJ5_append_cf1ce_20 ?_
  refine w_callv (va_runU (As := [.int (nI (L.length + (liN i)))]) (rest := []) ⟨hx, hb, hml, hown, hts⟩ (c_J5_ensureCapacityInternal_d00df l nW D cA ad K V tO tT hi hNW (tL I L) J X H.size (L.length + (liN i)) (by omega) ((tL_cod I L).trans hc)) (va_cwU 1 hts gJ5_append_cf1ce_J5_ensureCapacityInternal_d00df_u100J4 rfl rfl rfl rfl (by decide +kernel) ⟨Nat.le_of_ble_eq_true rfl, Nat.le_of_ble_eq_true rfl⟩) (w_preVL hK hP hL hS 100 (by omega) ⟨rfl, rfl⟩ rfl) rfl rfl hl.1 rfl (lv_room (Nat.le_of_ble_eq_true rfl)) dJ5_append_cf1ce_21 ⟨Nat.le_of_ble_eq_true rfl, Nat.le_of_ble_eq_true rfl⟩) hS (fun H locs hP hS => ?_)
  refine lv_aload_n hx hb dJ5_append_cf1ce_24 rfl (lv_at hl 1 rfl) ?_
  refine lv_aload_n hx hb dJ5_append_cf1ce_25 rfl (lv_at hl 1 rfl) ?_
  refine w_lget (v := .int ((tL I L) 100 3)) hx hb hts inJ5_append_cf1ce_J4 hown hK hP (by omega) 3 (by decide) rfl (List.mem_of_getElem? (i := 1) rfl) (fun _ h9 => h9) dJ5_append_cf1ce_26 ?_
  refine w_topN (a := L.length) (tL_cnt I L) ?_
  refine lv_aload_n hx hb dJ5_append_cf1ce_29 rfl (lv_at hl 2 rfl) ?_
  refine w_callv (va_runU (As := [.int (nI (L.length)), .ref (K i)]) (rest := []) ⟨hx, hb, hml, hown, hts⟩ (c_J5_putStringAt_47b60 l nW D cA ad K V tO tT hi hNW (tL I L) J X H.size i (by omega) L.length (by omega) ((tL_cod I L).trans hc)) (va_cwU 2 hts gJ5_append_cf1ce_J5_putStringAt_47b60_u208J4 rfl rfl rfl rfl (by decide +kernel) ⟨Nat.le_of_ble_eq_true rfl, Nat.le_of_ble_eq_true rfl⟩) (w_preVL hK hP hL hS 100 (by omega) ⟨rfl, rfl⟩ rfl) rfl rfl hl.1 rfl (lv_room (Nat.le_of_ble_eq_true rfl)) dJ5_append_cf1ce_30 ⟨Nat.le_of_ble_eq_true rfl, Nat.le_of_ble_eq_true rfl⟩) hS (fun H locs hP hS => ?_)
  refine lv_aload_n hx hb dJ5_append_cf1ce_33 rfl (lv_at hl 1 rfl) ?_
  refine lv_dup hx hb dJ5_append_cf1ce_34 rfl ?_
  refine w_lget (v := .int ((st1 (tL I L) 101 (va_cpy (liC i) ((tL I L) 101) 0 (L.length) (liN i))) 100 3)) hx hb hts inJ5_append_cf1ce_J4 hown hK hP (by omega) 3 (by decide) rfl (List.mem_of_getElem? (i := 1) rfl) (fun _ h9 => h9) dJ5_append_cf1ce_35 ?_
  refine w_topN (a := L.length) (by show st1 _ _ _ 100 3 = _; simp [st1, tL_cnt]) ?_
  refine lv_iload_n hx hb dJ5_append_cf1ce_38 rfl (lv_at hl 0 rfl) ?_
  refine w_iaddN (a := L.length) (b := (liN i)) hx hb rfl rfl dJ5_append_cf1ce_39 ?_
  refine w_lput (v := nI (L.length + (liN i))) (ty := .int) hx hb hts inJ5_append_cf1ce_J4 hown hK hP hi hA hS (by omega) 3 (by decide) rfl (by decide +kernel) rfl rfl rfl (List.mem_of_getElem? (i := 1) rfl) (fun _ h9 => h9) dJ5_append_cf1ce_40 (fun H locs hP hS => ?_)
  obtain ⟨I_1, eI_1⟩ : ∃ y, y = st2 (st1 (tL I L) 101 (va_cpy (liC i) ((tL I L) 101) 0 (L.length) (liN i))) 100 3 (nI (L.length + (liN i))) := ⟨_, rfl⟩
  have hP : WP nW D cA ad I_1 J X H := by rw [eI_1]; exact hP
  refine lv_aload_n hx hb dJ5_append_cf1ce_43 rfl (lv_at hl 1 rfl) ?_
  exact w_aret hx hb hr ⟨_, rfl⟩ hlocks hK hP hS ⟨rfl, by subst_vars; exact tL_cpy I L i, rfl, rfl⟩ dJ5_append_cf1ce_44

theorem inJ4_append_15ec4_J4 : ∀ w ∈ wsJ40, w ∈ wsJ4_append_15ec4 := by decide +kernel
set_option maxHeartbeats 4000000 in
set_option maxRecDepth 100000 in
/-- J4_append_15ec4 -/
theorem c_J4_append_15ec4 (l : Launch) (nW : Nat) (D : va_G) (cA : Nat → ClassId) (ad K V : Nat → Nat) (tO tT : Nat) (hi : inj nW ad) (hNW : 102 ≤ nW) (I : SI) (J : SJ) (X : SX) (sz : Nat) (L : List Nat) (hc : I 100 1 = 0) (i : Nat) (hi9 : i < 9) (h16 : L.length + liN i ≤ 16) : Met l yJ4_append_15ec4 wsJ4_append_15ec4 ({ frames := 4, cells := 0, slots := 0, locals := 107 }) (va_Pc [.ref (ad 100), .ref (K i)] (wPreL nW D cA ad K V tO tT (tL I L) J X sz)) (qA nW D cA ad sz (ad 100) (tL I (L ++ liL i)) J X) 0 0 (fr nW ad sz) := by
  refine Met.ofW (cc := cJ4_append_15ec4) (maxL := 2) (ret := (some (.object "java/lang/StringBuilder"))) (by decide) rfl ?_
  intro p e s m args below meth c s₁ B hml hv
  obtain ⟨rfl, ⟨rfl, hP, hK⟩, hL⟩ := hv
  have hx := B.exec
  have hb := B.bytes
  have hr := B.returns
  have hts := atoms_spec (ws := wsJ4_append_15ec4) B.pre
  have hown : s.vm.findClass RJ4 = some m.cls := findClass_of_methodNamed B.named
  have hlocks := B.notSynchronized
  have hS : va_S (fr nW ad s.heap.size) s.heap s.heap [] := va_S.rf
  have hA : ∀ k, k < nW → fr nW ad s.heap.size (ad k) := fr_ad
  have hl := lv_entry ([.ref (ad 100), .ref (K i)]) (n := 2) (Nat.le_of_ble_eq_true rfl)
  rw [lg_entry_eq]
  generalize (lg_sl ([.ref (ad 100), .ref (K i)]) ++ List.replicate (2 - (lg_sl ([.ref (ad 100), .ref (K i)])).length) Slot.unset).toArray = ls at hl ⊢
  have hl : lv_has ls 2 [(0, .ref (ad 100)), (1, .ref (K i))] := hl
  suffices Z9 : ∀ (H : Heap) (locs : List Loc), WP nW D cA ad (tL I L) J X H → va_S (fr nW ad s.heap.size) s.heap H locs → W p l e (headSpec wsJ4_append_15ec4 ({ frames := 4, cells := 0, slots := 0, locals := 107 })).room s m ([.ref (ad 100), .ref (K i)] : List Value).toArray below meth c H locs 0 0 (MQ below (qA nW D cA ad s.heap.size (ad 100) (tL I (L ++ liL i)) J X) ([.ref (ad 100), .ref (K i)] : List Value).toArray s 0 0 (fr nW ad s.heap.size)) (F0 m 0 ls []) from Z9 _ _ hP hS
  clear hP hS
  intro H locs hP hS
  refine lv_aload_n hx hb dJ4_append_15ec4_0 rfl (lv_at hl 0 rfl) ?_
  refine lv_aload_n hx hb dJ4_append_15ec4_1 rfl (lv_at hl 1 rfl) ?_
  have hat : ClassAt s RJ4 (D.1 1) := ⟨(hK.1 1 _ rfl).2.1, (hK.1 1 _ rfl).2.2⟩
  refine w_callr (va_runSU (As := [.ref (K i)]) (rest := []) hat ⟨hx, hb, hml, hown, hts⟩ (c_J5_append_cf1ce l nW D cA ad K V tO tT hi hNW I J X H.size L hc i (by omega) (by first | omega | (simp only [List.length_append, List.length_cons, List.length_nil]; omega))) (va_cwSU 1 hts gJ4_append_15ec4_J5_append_cf1ce_s29 rfl rfl rfl (by decide +kernel) ⟨Nat.le_of_ble_eq_true rfl, Nat.le_of_ble_eq_true rfl⟩) (w_preVL hK hP hL hS 100 (by omega) ⟨rfl, rfl⟩ rfl) rfl rfl hl.1 rfl (lv_room (Nat.le_of_ble_eq_true rfl)) dJ4_append_15ec4_2 ⟨Nat.le_of_ble_eq_true rfl, Nat.le_of_ble_eq_true rfl⟩) hS (fun H locs hP hS => ?_)
  refine lv_pop hx hb dJ4_append_15ec4_5 rfl ?_
  refine lv_aload_n hx hb dJ4_append_15ec4_6 rfl (lv_at hl 0 rfl) ?_
  exact w_aret hx hb hr ⟨_, rfl⟩ hlocks hK hP hS ⟨by subst_vars; rfl, by subst_vars; rfl, by subst_vars; rfl, by subst_vars; rfl⟩ dJ4_append_15ec4_7
