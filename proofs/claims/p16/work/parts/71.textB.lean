/-! the class's text -/
def sbM (I : SI) (n : Nat) : SI := if n = 0 then I else st2 I 100 2 1
theorem sbM_o (I : SI) (n : Nat) {a b : Nat} (h : ¬ (a = 100 ∧ b = 2)) : sbM I n a b = I a b := by
  unfold sbM
  by_cases h0 : n = 0
  · rw [if_pos h0]
  · rw [if_neg h0]; exact st2_n I 1 h
theorem tL_nil (I : SI) : st2 I 100 3 0 = tL I [] := by
  funext a b
  unfold st2 tL
  rw [if_neg (c := a = 101 ∧ b < ([] : List Nat).length) (fun h => Nat.not_lt_zero _ h.2)]
  rfl
def btN (h : Nat) : Nat := if h = 0 then 2 else if h = 1 then 3 else 4
theorem bt0 {h : Nat} (q : h = 0) : btN h = 2 := if_pos q
theorem bt1 {h : Nat} (q : h = 1) : btN h = 3 := by subst q; rfl
theorem bt2 {h : Nat} (q : ¬ h = 0) (q1 : ¬ h = 1) : btN h = 4 := by unfold btN; rw [if_neg q, if_neg q1]
theorem btN_lt (h : Nat) : btN h < 9 := by unfold btN; split <;> (try split) <;> omega
theorem dg_1 {k : Nat} (h : k < 10) : (dg k).length = 1 := by unfold dg; rw [if_pos h]; rfl
theorem dg_2 (k : Nat) : (dg k).length ≤ 2 := by unfold dg; split <;> simp
def lineL (r b w h : Nat) : List Nat := if w = 0 then [] ++ liL 0 else (((((([] ++ [114]) ++ dg r) ++ liL 1) ++ dg b) ++ [58]) ++ dg w) ++ liL (btN h)
theorem lineL_len {r b : Nat} (w h : Nat) (hr : r < 4) (hb : b < 5) : (lineL r b w h).length ≤ 15 := by
  unfold lineL
  split
  · decide
  · simp only [List.length_append, List.length_cons, List.length_nil]
    have h1 := dg_1 (k := r) (by omega)
    have h2 := dg_1 (k := b) (by omega)
    have h3 := dg_2 w
    have h4 : (liL 1).length = 2 := rfl
    have h5 : (liL (btN h)).length ≤ 7 := liN_le _ (btN_lt h)
    omega
theorem dg_s {k : Nat} (h : k < 100) : ∀ x ∈ dg k, x < 128 := by
  intro x hx
  unfold dg at hx
  split at hx <;> simp at hx <;> omega
theorem liL_s {i : Nat} (h : i < 9) : ∀ x ∈ liL i, x < 128 := (by decide : ∀ i, i < 9 → ∀ x ∈ liL i, x < 128) i h
theorem lineL_s {r b w : Nat} (h : Nat) (hr : r < 4) (hb : b < 5) (hw : w < 100) : ∀ x ∈ lineL r b w h, x < 128 := by
  unfold lineL
  have h1 := dg_s (k := r) (by omega)
  have h2 := dg_s (k := b) (by omega)
  have h3 := dg_s hw
  have h4 := liL_s (i := 1) (by omega)
  have h5 := liL_s (btN_lt h)
  have h6 := liL_s (i := 0) (by omega)
  split
  · intro x hx
    rw [List.nil_append] at hx
    exact h6 x hx
  · intro x hx
    simp only [List.mem_append, List.nil_append, List.mem_singleton] at hx
    rcases hx with (((((hx | hx) | hx) | hx) | hx) | hx) | hx
    · omega
    · exact h1 x hx
    · exact h4 x hx
    · exact h2 x hx
    · omega
    · exact h3 x hx
    · exact h5 x hx
theorem getD_s {L : List Nat} (h : ∀ x ∈ L, x < 128) (p : Nat) : L.getD p 0 < 128 := by
  by_cases hp : p < L.length
  · rw [List.getD_eq_getElem?_getD, List.getElem?_eq_getElem hp]; exact h _ (List.getElem_mem hp)
  · rw [List.getD_eq_getElem?_getD, List.getElem?_eq_none (Nat.le_of_not_lt hp)]; decide
theorem mn16 : ∀ n, n < 17 → (if nI 16 < nI n then nI 16 else nI n) = nI n := by decide +kernel

theorem inJ5_setLength_d00df_J4 : ∀ w ∈ wsJ40, w ∈ wsJ5_setLength_d00df := by decide +kernel
set_option maxHeartbeats 4000000 in
set_option maxRecDepth 100000 in
/-- J5_setLength_d00df -/
theorem c_J5_setLength_d00df (l : Launch) (nW : Nat) (D : va_G) (cA : Nat → ClassId) (ad K V : Nat → Nat) (tO tT : Nat) (hi : inj nW ad) (hNW : 102 ≤ nW) (I : SI) (J : SJ) (X : SX) (sz : Nat) (n : Nat) (hn : I 100 3 = nI n) (hn9 : n < 2147483648) (hc : I 100 1 = 0) : Met l yJ5_setLength_d00df wsJ5_setLength_d00df ({ frames := 1, cells := 0, slots := 0, locals := 22 }) (va_Pc [.ref (ad 100), .int (0)] (wPreL nW D cA ad K V tO tT I J X sz)) (qV nW D cA ad sz (tL (sbM I n) []) J X) 0 0 (fr nW ad sz) := by
  refine Met.ofW (cc := cJ5_setLength_d00df) (maxL := 2) (ret := none) (by decide) rfl ?_
  intro p e s m args below meth c s₁ B hml hv
  obtain ⟨rfl, ⟨rfl, hP, hK⟩, hL⟩ := hv
  have hx := B.exec
  have hb := B.bytes
  have hr := B.returns
  have hts := atoms_spec (ws := wsJ5_setLength_d00df) B.pre
  have hown : s.vm.findClass RJ5 = some m.cls := findClass_of_methodNamed B.named
  have hlocks := B.notSynchronized
  have hS : va_S (fr nW ad s.heap.size) s.heap s.heap [] := va_S.rf
  have hA : ∀ k, k < nW → fr nW ad s.heap.size (ad k) := fr_ad
  have hl := lv_entry ([.ref (ad 100), .int (0)]) (n := 2) (Nat.le_of_ble_eq_true rfl)
  rw [lg_entry_eq]
  generalize (lg_sl ([.ref (ad 100), .int (0)]) ++ List.replicate (2 - (lg_sl ([.ref (ad 100), .int (0)])).length) Slot.unset).toArray = ls at hl ⊢
  have hl : lv_has ls 2 [(0, .ref (ad 100)), (1, .int (0))] := hl
  suffices Z9 : ∀ (H : Heap) (locs : List Loc), WP nW D cA ad I J X H → va_S (fr nW ad s.heap.size) s.heap H locs → W p l e (headSpec wsJ5_setLength_d00df ({ frames := 1, cells := 0, slots := 0, locals := 22 })).room s m ([.ref (ad 100), .int (0)] : List Value).toArray below meth c H locs 0 0 (MQ below (qV nW D cA ad s.heap.size (tL (sbM I n) []) J X) ([.ref (ad 100), .int (0)] : List Value).toArray s 0 0 (fr nW ad s.heap.size)) (F0 m 0 ls []) from Z9 _ _ hP hS
  clear hP hS
  intro H locs hP hS
  refine lv_iload_n hx hb dJ5_setLength_d00df_0 rfl (lv_at hl 1 rfl) ?_
  refine lv_if_ge (tgt := 13) hx hb dJ5_setLength_d00df_1 (by decide) (fun c1 => ?_) (fun c1 => ?_)
  · have qc1 : 0 ≤ 0 := (wn_le (a := 0) (b := 0) rfl rfl (by omega) (by omega)).mp c1
    refine lv_aload_n hx hb dJ5_setLength_d00df_13 rfl (lv_at hl 0 rfl) ?_
    refine lv_iload_n hx hb dJ5_setLength_d00df_14 rfl (lv_at hl 1 rfl) ?_
    refine w_callv (va_runU (As := [.int (0)]) (rest := []) ⟨hx, hb, hml, hown, hts⟩ (c_J5_ensureCapacityInternal_d00df l nW D cA ad K V tO tT hi hNW I J X H.size 0 (by omega) hc) (va_cwU 1 hts gJ5_setLength_d00df_J5_ensureCapacityInternal_d00df_u100J4 rfl rfl rfl rfl (by decide +kernel) ⟨Nat.le_of_ble_eq_true rfl, Nat.le_of_ble_eq_true rfl⟩) (w_preVL hK hP hL hS 100 (by omega) ⟨rfl, rfl⟩ rfl) rfl rfl hl.1 rfl (lv_room (Nat.le_of_ble_eq_true rfl)) dJ5_setLength_d00df_15 ⟨Nat.le_of_ble_eq_true rfl, Nat.le_of_ble_eq_true rfl⟩) hS (fun H locs hP hS => ?_)
    refine lv_aload_n hx hb dJ5_setLength_d00df_18 rfl (lv_at hl 0 rfl) ?_
    refine w_lget (v := .int (I 100 3)) hx hb hts inJ5_setLength_d00df_J4 hown hK hP (by omega) 3 (by decide) rfl (List.mem_of_getElem? (i := 4) rfl) (fun _ h9 => h9) dJ5_setLength_d00df_19 ?_
    refine w_topN (a := n) hn ?_
    refine lv_iload_n hx hb dJ5_setLength_d00df_22 rfl (lv_at hl 1 rfl) ?_
    refine lv_icmp_ge (tgt := 63) hx hb dJ5_setLength_d00df_23 (by decide) (fun c23 => ?_) (fun c23 => ?_)
    · have qc23 : 0 ≤ n := (wn_le (a := 0) (b := n) rfl rfl (by omega) (by omega)).mp c23
      refine lv_aload_n hx hb dJ5_setLength_d00df_63 rfl (lv_at hl 0 rfl) ?_
      refine w_lget (v := .int (I 100 3)) hx hb hts inJ5_setLength_d00df_J4 hown hK hP (by omega) 3 (by decide) rfl (List.mem_of_getElem? (i := 4) rfl) (fun _ h9 => h9) dJ5_setLength_d00df_64 ?_
      refine w_topN (a := n) hn ?_
      refine lv_iload_n hx hb dJ5_setLength_d00df_67 rfl (lv_at hl 1 rfl) ?_
      refine lv_icmp_le (tgt := 76) hx hb dJ5_setLength_d00df_68 (by decide) (fun c68 => ?_) (fun c68 => ?_)
      · have qc68 : n ≤ 0 := (wn_le (a := n) (b := 0) rfl rfl (by omega) (by omega)).mp c68
        refine lv_aload_n hx hb dJ5_setLength_d00df_76 rfl (lv_at hl 0 rfl) ?_
        refine lv_iload_n hx hb dJ5_setLength_d00df_77 rfl (lv_at hl 1 rfl) ?_
        refine w_lput (v := 0) (ty := .int) hx hb hts inJ5_setLength_d00df_J4 hown hK hP hi hA hS (by omega) 3 (by decide) rfl (by decide +kernel) rfl rfl rfl (List.mem_of_getElem? (i := 4) rfl) (fun _ h9 => h9) dJ5_setLength_d00df_78 (fun H locs hP hS => ?_)
        obtain ⟨I_1, eI_1⟩ : ∃ y, y = st2 I 100 3 (0) := ⟨_, rfl⟩
        have hP : WP nW D cA ad I_1 J X H := by rw [eI_1]; exact hP
        exact w_vret hx hb hr hlocks hK hP hS ⟨by subst_vars; unfold sbM; first | (rw [if_pos (by omega)]; exact tL_nil _) | (rw [if_neg (by omega)]; exact tL_nil _), rfl, rfl⟩ dJ5_setLength_d00df_81
      · have qc68 : ¬ n ≤ 0 := fun z => c68 ((wn_le (a := n) (b := 0) rfl rfl (by omega) (by omega)).mpr z)
        refine lv_aload_n hx hb dJ5_setLength_d00df_71 rfl (lv_at hl 0 rfl) ?_
        refine lv_iconst (v := 1) hx hb dJ5_setLength_d00df_72 (by decide) ?_
        refine w_lput (v := 1) (ty := .boolean) hx hb hts inJ5_setLength_d00df_J4 hown hK hP hi hA hS (by omega) 2 (by decide) rfl (by decide +kernel) rfl rfl rfl (List.mem_of_getElem? (i := 6) rfl) (fun _ h9 => h9) dJ5_setLength_d00df_73 (fun H locs hP hS => ?_)
        obtain ⟨I_2, eI_2⟩ : ∃ y, y = st2 I 100 2 (1) := ⟨_, rfl⟩
        have hP : WP nW D cA ad I_2 J X H := by rw [eI_2]; exact hP
        refine lv_aload_n hx hb dJ5_setLength_d00df_76 rfl (lv_at hl 0 rfl) ?_
        refine lv_iload_n hx hb dJ5_setLength_d00df_77 rfl (lv_at hl 1 rfl) ?_
        refine w_lput (v := 0) (ty := .int) hx hb hts inJ5_setLength_d00df_J4 hown hK hP hi hA hS (by omega) 3 (by decide) rfl (by decide +kernel) rfl rfl rfl (List.mem_of_getElem? (i := 4) rfl) (fun _ h9 => h9) dJ5_setLength_d00df_78 (fun H locs hP hS => ?_)
        obtain ⟨I_3, eI_3⟩ : ∃ y, y = st2 I_2 100 3 (0) := ⟨_, rfl⟩
        have hP : WP nW D cA ad I_3 J X H := by rw [eI_3]; exact hP
        exact w_vret hx hb hr hlocks hK hP hS ⟨by subst_vars; unfold sbM; first | (rw [if_pos (by omega)]; exact tL_nil _) | (rw [if_neg (by omega)]; exact tL_nil _), rfl, rfl⟩ dJ5_setLength_d00df_81
    · have qc23 : ¬ 0 ≤ n := fun z => c23 ((wn_le (a := 0) (b := n) rfl rfl (by omega) (by omega)).mpr z)
      exact absurd qc23 (by omega)
  · have qc1 : ¬ 0 ≤ 0 := fun z => c1 ((wn_le (a := 0) (b := 0) rfl rfl (by omega) (by omega)).mpr z)
    exact absurd qc1 (by omega)

theorem inJ4_setLength_d00df_J4 : ∀ w ∈ wsJ40, w ∈ wsJ4_setLength_d00df := by decide +kernel
set_option maxHeartbeats 4000000 in
set_option maxRecDepth 100000 in
/-- J4_setLength_d00df -/
theorem c_J4_setLength_d00df (l : Launch) (nW : Nat) (D : va_G) (cA : Nat → ClassId) (ad K V : Nat → Nat) (tO tT : Nat) (hi : inj nW ad) (hNW : 102 ≤ nW) (I : SI) (J : SJ) (X : SX) (sz : Nat) (n : Nat) (hn : I 100 3 = nI n) (hn9 : n < 2147483648) (hc : I 100 1 = 0) : Met l yJ4_setLength_d00df wsJ4_setLength_d00df ({ frames := 2, cells := 0, slots := 0, locals := 43 }) (va_Pc [.ref (ad 100), .int (0)] (wPreL nW D cA ad K V tO tT I J X sz)) (qV nW D cA ad sz (tL (sbM I n) []) J X) 0 0 (fr nW ad sz) := by
  refine Met.ofW (cc := cJ4_setLength_d00df) (maxL := 2) (ret := none) (by decide) rfl ?_
  intro p e s m args below meth c s₁ B hml hv
  obtain ⟨rfl, ⟨rfl, hP, hK⟩, hL⟩ := hv
  have hx := B.exec
  have hb := B.bytes
  have hr := B.returns
  have hts := atoms_spec (ws := wsJ4_setLength_d00df) B.pre
  have hown : s.vm.findClass RJ4 = some m.cls := findClass_of_methodNamed B.named
  have hlocks := B.notSynchronized
  have hS : va_S (fr nW ad s.heap.size) s.heap s.heap [] := va_S.rf
  have hA : ∀ k, k < nW → fr nW ad s.heap.size (ad k) := fr_ad
  have hl := lv_entry ([.ref (ad 100), .int (0)]) (n := 2) (Nat.le_of_ble_eq_true rfl)
  rw [lg_entry_eq]
  generalize (lg_sl ([.ref (ad 100), .int (0)]) ++ List.replicate (2 - (lg_sl ([.ref (ad 100), .int (0)])).length) Slot.unset).toArray = ls at hl ⊢
  have hl : lv_has ls 2 [(0, .ref (ad 100)), (1, .int (0))] := hl
  suffices Z9 : ∀ (H : Heap) (locs : List Loc), WP nW D cA ad I J X H → va_S (fr nW ad s.heap.size) s.heap H locs → W p l e (headSpec wsJ4_setLength_d00df ({ frames := 2, cells := 0, slots := 0, locals := 43 })).room s m ([.ref (ad 100), .int (0)] : List Value).toArray below meth c H locs 0 0 (MQ below (qV nW D cA ad s.heap.size (tL (sbM I n) []) J X) ([.ref (ad 100), .int (0)] : List Value).toArray s 0 0 (fr nW ad s.heap.size)) (F0 m 0 ls []) from Z9 _ _ hP hS
  clear hP hS
  intro H locs hP hS
  refine lv_aload_n hx hb dJ4_setLength_d00df_0 rfl (lv_at hl 0 rfl) ?_
  refine lv_iload_n hx hb dJ4_setLength_d00df_1 rfl (lv_at hl 1 rfl) ?_
  have hat : ClassAt s RJ4 (D.1 1) := ⟨(hK.1 1 _ rfl).2.1, (hK.1 1 _ rfl).2.2⟩
  refine w_callv (va_runSU (As := [.int (0)]) (rest := []) hat ⟨hx, hb, hml, hown, hts⟩ (c_J5_setLength_d00df l nW D cA ad K V tO tT hi hNW I J X H.size n hn hn9 hc) (va_cwSU 1 hts gJ4_setLength_d00df_J5_setLength_d00df_s333 rfl rfl rfl (by decide +kernel) ⟨Nat.le_of_ble_eq_true rfl, Nat.le_of_ble_eq_true rfl⟩) (w_preVL hK hP hL hS 100 (by omega) ⟨rfl, rfl⟩ rfl) rfl rfl hl.1 rfl (lv_room (Nat.le_of_ble_eq_true rfl)) dJ4_setLength_d00df_2 ⟨Nat.le_of_ble_eq_true rfl, Nat.le_of_ble_eq_true rfl⟩) hS (fun H locs hP hS => ?_)
  exact w_vret hx hb hr hlocks hK hP hS ⟨by subst_vars; rfl, by subst_vars; rfl, by subst_vars; rfl⟩ dJ4_setLength_d00df_5

theorem inJ5_length_8abf5_J4 : ∀ w ∈ wsJ40, w ∈ wsJ5_length_8abf5 := by decide +kernel
set_option maxHeartbeats 4000000 in
set_option maxRecDepth 100000 in
/-- J5_length_8abf5 -/
theorem c_J5_length_8abf5 (l : Launch) (nW : Nat) (D : va_G) (cA : Nat → ClassId) (ad K V : Nat → Nat) (tO tT : Nat) (hi : inj nW ad) (hNW : 102 ≤ nW) (I : SI) (J : SJ) (X : SX) (sz : Nat) (L : List Nat) : Met l yJ5_length_8abf5 wsJ5_length_8abf5 ({ frames := 0, cells := 0, slots := 0, locals := 0 }) (va_Pc [.ref (ad 100)] (wPreL nW D cA ad K V tO tT (tL I L) J X sz)) (qI nW D cA ad sz (nI L.length) (tL I L) J X) 0 0 (fr nW ad sz) := by
  refine Met.ofW (cc := cJ5_length_8abf5) (maxL := 1) (ret := (some .int)) (by decide) rfl ?_
  intro p e s m args below meth c s₁ B hml hv
  obtain ⟨rfl, ⟨rfl, hP, hK⟩, hL⟩ := hv
  have hx := B.exec
  have hb := B.bytes
  have hr := B.returns
  have hts := atoms_spec (ws := wsJ5_length_8abf5) B.pre
  have hown : s.vm.findClass RJ5 = some m.cls := findClass_of_methodNamed B.named
  have hlocks := B.notSynchronized
  have hS : va_S (fr nW ad s.heap.size) s.heap s.heap [] := va_S.rf
  have hA : ∀ k, k < nW → fr nW ad s.heap.size (ad k) := fr_ad
  have hl := lv_entry ([.ref (ad 100)]) (n := 1) (Nat.le_of_ble_eq_true rfl)
  rw [lg_entry_eq]
  generalize (lg_sl ([.ref (ad 100)]) ++ List.replicate (1 - (lg_sl ([.ref (ad 100)])).length) Slot.unset).toArray = ls at hl ⊢
  have hl : lv_has ls 1 [(0, .ref (ad 100))] := hl
  suffices Z9 : ∀ (H : Heap) (locs : List Loc), WP nW D cA ad (tL I L) J X H → va_S (fr nW ad s.heap.size) s.heap H locs → W p l e (headSpec wsJ5_length_8abf5 ({ frames := 0, cells := 0, slots := 0, locals := 0 })).room s m ([.ref (ad 100)] : List Value).toArray below meth c H locs 0 0 (MQ below (qI nW D cA ad s.heap.size (nI L.length) (tL I L) J X) ([.ref (ad 100)] : List Value).toArray s 0 0 (fr nW ad s.heap.size)) (F0 m 0 ls []) from Z9 _ _ hP hS
  clear hP hS
  intro H locs hP hS
  refine lv_aload_n hx hb dJ5_length_8abf5_0 rfl (lv_at hl 0 rfl) ?_
  refine w_lget (v := .int ((tL I L) 100 3)) hx hb hts inJ5_length_8abf5_J4 hown hK hP (by omega) 3 (by decide) rfl (List.mem_of_getElem? (i := 1) rfl) (fun _ h9 => h9) dJ5_length_8abf5_1 ?_
  refine w_topN (a := L.length) (tL_cnt I L) ?_
  exact w_iret hx hb hr hlocks hK hP hS ⟨by subst_vars; rfl, by subst_vars; rfl, by subst_vars; rfl, by subst_vars; rfl⟩ dJ5_length_8abf5_4

theorem inJ4_length_8abf5_J4 : ∀ w ∈ wsJ40, w ∈ wsJ4_length_8abf5 := by decide +kernel
set_option maxHeartbeats 4000000 in
set_option maxRecDepth 100000 in
/-- J4_length_8abf5 -/
theorem c_J4_length_8abf5 (l : Launch) (nW : Nat) (D : va_G) (cA : Nat → ClassId) (ad K V : Nat → Nat) (tO tT : Nat) (hi : inj nW ad) (hNW : 102 ≤ nW) (I : SI) (J : SJ) (X : SX) (sz : Nat) (L : List Nat) : Met l yJ4_length_8abf5 wsJ4_length_8abf5 ({ frames := 1, cells := 0, slots := 0, locals := 20 }) (va_Pc [.ref (ad 100)] (wPreL nW D cA ad K V tO tT (tL I L) J X sz)) (qI nW D cA ad sz (nI L.length) (tL I L) J X) 0 0 (fr nW ad sz) := by
  refine Met.ofW (cc := cJ4_length_8abf5) (maxL := 1) (ret := (some .int)) (by decide) rfl ?_
  intro p e s m args below meth c s₁ B hml hv
  obtain ⟨rfl, ⟨rfl, hP, hK⟩, hL⟩ := hv
  have hx := B.exec
  have hb := B.bytes
  have hr := B.returns
  have hts := atoms_spec (ws := wsJ4_length_8abf5) B.pre
  have hown : s.vm.findClass RJ4 = some m.cls := findClass_of_methodNamed B.named
  have hlocks := B.notSynchronized
  have hS : va_S (fr nW ad s.heap.size) s.heap s.heap [] := va_S.rf
  have hA : ∀ k, k < nW → fr nW ad s.heap.size (ad k) := fr_ad
  have hl := lv_entry ([.ref (ad 100)]) (n := 1) (Nat.le_of_ble_eq_true rfl)
  rw [lg_entry_eq]
  generalize (lg_sl ([.ref (ad 100)]) ++ List.replicate (1 - (lg_sl ([.ref (ad 100)])).length) Slot.unset).toArray = ls at hl ⊢
  have hl : lv_has ls 1 [(0, .ref (ad 100))] := hl
  suffices Z9 : ∀ (H : Heap) (locs : List Loc), WP nW D cA ad (tL I L) J X H → va_S (fr nW ad s.heap.size) s.heap H locs → W p l e (headSpec wsJ4_length_8abf5 ({ frames := 1, cells := 0, slots := 0, locals := 20 })).room s m ([.ref (ad 100)] : List Value).toArray below meth c H locs 0 0 (MQ below (qI nW D cA ad s.heap.size (nI L.length) (tL I L) J X) ([.ref (ad 100)] : List Value).toArray s 0 0 (fr nW ad s.heap.size)) (F0 m 0 ls []) from Z9 _ _ hP hS
  clear hP hS
  intro H locs hP hS
  refine lv_aload_n hx hb dJ4_length_8abf5_0 rfl (lv_at hl 0 rfl) ?_
  have hat : ClassAt s RJ4 (D.1 1) := ⟨(hK.1 1 _ rfl).2.1, (hK.1 1 _ rfl).2.2⟩
  refine w_calli (va_runSU (As := []) (rest := []) hat ⟨hx, hb, hml, hown, hts⟩ (c_J5_length_8abf5 l nW D cA ad K V tO tT hi hNW I J X H.size L) (va_cwSU 0 hts gJ4_length_8abf5_J5_length_8abf5_s343 rfl rfl rfl (by decide +kernel) ⟨Nat.le_of_ble_eq_true rfl, Nat.le_of_ble_eq_true rfl⟩) (w_preVL hK hP hL hS 100 (by omega) ⟨rfl, rfl⟩ rfl) rfl rfl hl.1 rfl (lv_room (Nat.le_of_ble_eq_true rfl)) dJ4_length_8abf5_1 ⟨Nat.le_of_ble_eq_true rfl, Nat.le_of_ble_eq_true rfl⟩) hS (fun H locs hP hS => ?_)
  exact w_iret hx hb hr hlocks hK hP hS ⟨by subst_vars; rfl, by subst_vars; rfl, by subst_vars; rfl, by subst_vars; rfl⟩ dJ4_length_8abf5_4

set_option maxHeartbeats 4000000 in
set_option maxRecDepth 100000 in
/-- J3_checkIndex_8e157 -/
theorem c_J3_n (l : Launch) (nW : Nat) (D : va_G) (cA : Nat → ClassId) (ad K V : Nat → Nat) (tO tT : Nat) (hi : inj nW ad) (hNW : 102 ≤ nW) (I : SI) (J : SJ) (X : SX) (sz : Nat) (a b : Nat) (hab : a < b) (hb9 : b < 2147483648) : Met l yJ3_checkIndex_8e157 wsJ3_checkIndex_8e157 ({ frames := 0, cells := 0, slots := 0, locals := 0 }) (va_Pc [.int (nI (a)), .int (nI (b)), .null] (wPreL nW D cA ad K V tO tT I J X sz)) (qI nW D cA ad sz (nI a) I J X) 0 0 (fr nW ad sz) := by
  refine Met.ofW (cc := cJ3_checkIndex_8e157) (maxL := 3) (ret := (some .int)) (by decide) rfl ?_
  intro p e s m args below meth c s₁ B hml hv
  obtain ⟨rfl, ⟨rfl, hP, hK⟩, hL⟩ := hv
  have hx := B.exec
  have hb := B.bytes
  have hr := B.returns
  have hts := atoms_spec (ws := wsJ3_checkIndex_8e157) B.pre
  have hown : s.vm.findClass RJ3 = some m.cls := findClass_of_methodNamed B.named
  have hlocks := B.notSynchronized
  have hS : va_S (fr nW ad s.heap.size) s.heap s.heap [] := va_S.rf
  have hA : ∀ k, k < nW → fr nW ad s.heap.size (ad k) := fr_ad
  have hl := lv_entry ([.int (nI (a)), .int (nI (b)), .null]) (n := 3) (Nat.le_of_ble_eq_true rfl)
  rw [lg_entry_eq]
  generalize (lg_sl ([.int (nI (a)), .int (nI (b)), .null]) ++ List.replicate (3 - (lg_sl ([.int (nI (a)), .int (nI (b)), .null])).length) Slot.unset).toArray = ls at hl ⊢
  have hl : lv_has ls 3 [(0, .int (nI (a))), (1, .int (nI (b))), (2, .null)] := hl
  suffices Z9 : ∀ (H : Heap) (locs : List Loc), WP nW D cA ad I J X H → va_S (fr nW ad s.heap.size) s.heap H locs → W p l e (headSpec wsJ3_checkIndex_8e157 ({ frames := 0, cells := 0, slots := 0, locals := 0 })).room s m ([.int (nI (a)), .int (nI (b)), .null] : List Value).toArray below meth c H locs 0 0 (MQ below (qI nW D cA ad s.heap.size (nI a) I J X) ([.int (nI (a)), .int (nI (b)), .null] : List Value).toArray s 0 0 (fr nW ad s.heap.size)) (F0 m 0 ls []) from Z9 _ _ hP hS
  clear hP hS
  intro H locs hP hS
  refine lv_iload_n hx hb dJ3_checkIndex_8e157_0 rfl (lv_at hl 0 rfl) ?_
  refine lv_if_lt (tgt := 9) hx hb dJ3_checkIndex_8e157_1 (by decide) (fun c1 => ?_) (fun c1 => ?_)
  · have qc1 : a < 0 := (wn_lt (a := a) (b := 0) rfl rfl (by omega) (by omega)).mp c1
    exact absurd qc1 (by omega)
  · have qc1 : ¬ a < 0 := fun z => c1 ((wn_lt (a := a) (b := 0) rfl rfl (by omega) (by omega)).mpr z)
    refine lv_iload_n hx hb dJ3_checkIndex_8e157_4 rfl (lv_at hl 0 rfl) ?_
    refine lv_iload_n hx hb dJ3_checkIndex_8e157_5 rfl (lv_at hl 1 rfl) ?_
    refine lv_icmp_lt (tgt := 16) hx hb dJ3_checkIndex_8e157_6 (by decide) (fun c6 => ?_) (fun c6 => ?_)
    · have qc6 : a < b := (wn_lt (a := a) (b := b) rfl rfl (by omega) (by omega)).mp c6
      refine lv_iload_n hx hb dJ3_checkIndex_8e157_16 rfl (lv_at hl 0 rfl) ?_
      exact w_iret hx hb hr hlocks hK hP hS ⟨by subst_vars; rfl, by subst_vars; rfl, by subst_vars; rfl, by subst_vars; rfl⟩ dJ3_checkIndex_8e157_17
    · have qc6 : ¬ a < b := fun z => c6 ((wn_lt (a := a) (b := b) rfl rfl (by omega) (by omega)).mpr z)
      exact absurd qc6 (by omega)

set_option maxHeartbeats 4000000 in
set_option maxRecDepth 100000 in
/-- J3_checkIndex_8e157 -/
theorem c_J3_r (l : Launch) (nW : Nat) (D : va_G) (cA : Nat → ClassId) (ad K V : Nat → Nat) (tO tT : Nat) (hi : inj nW ad) (hNW : 102 ≤ nW) (I : SI) (J : SJ) (X : SX) (sz : Nat) (q : Nat) (a b : Nat) (hab : a < b) (hb9 : b < 2147483648) : Met l yJ3_checkIndex_8e157 wsJ3_checkIndex_8e157 ({ frames := 0, cells := 0, slots := 0, locals := 0 }) (va_Pc [.int (nI (a)), .int (nI (b)), .ref (q)] (wPreL nW D cA ad K V tO tT I J X sz)) (qI nW D cA ad sz (nI a) I J X) 0 0 (fr nW ad sz) := by
  refine Met.ofW (cc := cJ3_checkIndex_8e157) (maxL := 3) (ret := (some .int)) (by decide) rfl ?_
  intro p e s m args below meth c s₁ B hml hv
  obtain ⟨rfl, ⟨rfl, hP, hK⟩, hL⟩ := hv
  have hx := B.exec
  have hb := B.bytes
  have hr := B.returns
  have hts := atoms_spec (ws := wsJ3_checkIndex_8e157) B.pre
  have hown : s.vm.findClass RJ3 = some m.cls := findClass_of_methodNamed B.named
  have hlocks := B.notSynchronized
  have hS : va_S (fr nW ad s.heap.size) s.heap s.heap [] := va_S.rf
  have hA : ∀ k, k < nW → fr nW ad s.heap.size (ad k) := fr_ad
  have hl := lv_entry ([.int (nI (a)), .int (nI (b)), .ref (q)]) (n := 3) (Nat.le_of_ble_eq_true rfl)
  rw [lg_entry_eq]
  generalize (lg_sl ([.int (nI (a)), .int (nI (b)), .ref (q)]) ++ List.replicate (3 - (lg_sl ([.int (nI (a)), .int (nI (b)), .ref (q)])).length) Slot.unset).toArray = ls at hl ⊢
  have hl : lv_has ls 3 [(0, .int (nI (a))), (1, .int (nI (b))), (2, .ref (q))] := hl
  suffices Z9 : ∀ (H : Heap) (locs : List Loc), WP nW D cA ad I J X H → va_S (fr nW ad s.heap.size) s.heap H locs → W p l e (headSpec wsJ3_checkIndex_8e157 ({ frames := 0, cells := 0, slots := 0, locals := 0 })).room s m ([.int (nI (a)), .int (nI (b)), .ref (q)] : List Value).toArray below meth c H locs 0 0 (MQ below (qI nW D cA ad s.heap.size (nI a) I J X) ([.int (nI (a)), .int (nI (b)), .ref (q)] : List Value).toArray s 0 0 (fr nW ad s.heap.size)) (F0 m 0 ls []) from Z9 _ _ hP hS
  clear hP hS
  intro H locs hP hS
  refine lv_iload_n hx hb dJ3_checkIndex_8e157_0 rfl (lv_at hl 0 rfl) ?_
  refine lv_if_lt (tgt := 9) hx hb dJ3_checkIndex_8e157_1 (by decide) (fun c1 => ?_) (fun c1 => ?_)
  · have qc1 : a < 0 := (wn_lt (a := a) (b := 0) rfl rfl (by omega) (by omega)).mp c1
    exact absurd qc1 (by omega)
  · have qc1 : ¬ a < 0 := fun z => c1 ((wn_lt (a := a) (b := 0) rfl rfl (by omega) (by omega)).mpr z)
    refine lv_iload_n hx hb dJ3_checkIndex_8e157_4 rfl (lv_at hl 0 rfl) ?_
    refine lv_iload_n hx hb dJ3_checkIndex_8e157_5 rfl (lv_at hl 1 rfl) ?_
    refine lv_icmp_lt (tgt := 16) hx hb dJ3_checkIndex_8e157_6 (by decide) (fun c6 => ?_) (fun c6 => ?_)
    · have qc6 : a < b := (wn_lt (a := a) (b := b) rfl rfl (by omega) (by omega)).mp c6
      refine lv_iload_n hx hb dJ3_checkIndex_8e157_16 rfl (lv_at hl 0 rfl) ?_
      exact w_iret hx hb hr hlocks hK hP hS ⟨by subst_vars; rfl, by subst_vars; rfl, by subst_vars; rfl, by subst_vars; rfl⟩ dJ3_checkIndex_8e157_17
    · have qc6 : ¬ a < b := fun z => c6 ((wn_lt (a := a) (b := b) rfl rfl (by omega) (by omega)).mpr z)
      exact absurd qc6 (by omega)

set_option maxHeartbeats 4000000 in
set_option maxRecDepth 100000 in
/-- J0_checkIndex_df160 -/
theorem c_J0_checkIndex_df160 (l : Launch) (nW : Nat) (D : va_G) (cA : Nat → ClassId) (ad K V : Nat → Nat) (tO tT : Nat) (hi : inj nW ad) (hNW : 102 ≤ nW) (I : SI) (J : SJ) (X : SX) (sz : Nat) (a b : Nat) (hab : a < b) (hb9 : b < 2147483648) : Met l yJ0_checkIndex_df160 wsJ0_checkIndex_df160 ({ frames := 1, cells := 0, slots := 0, locals := 22 }) (va_Pc [.int (nI (a)), .int (nI (b))] (wPreL nW D cA ad K V tO tT I J X sz)) (qV nW D cA ad sz I J X) 0 0 (fr nW ad sz) := by
  refine Met.ofW (cc := cJ0_checkIndex_df160) (maxL := 2) (ret := none) (by decide) rfl ?_
  intro p e s m args below meth c s₁ B hml hv
  obtain ⟨rfl, ⟨rfl, hP, hK⟩, hL⟩ := hv
  have hx := B.exec
  have hb := B.bytes
  have hr := B.returns
  have hts := atoms_spec (ws := wsJ0_checkIndex_df160) B.pre
  have hown : s.vm.findClass RJ0 = some m.cls := findClass_of_methodNamed B.named
  have hlocks := B.notSynchronized
  have hS : va_S (fr nW ad s.heap.size) s.heap s.heap [] := va_S.rf
  have hA : ∀ k, k < nW → fr nW ad s.heap.size (ad k) := fr_ad
  have hl := lv_entry ([.int (nI (a)), .int (nI (b))]) (n := 2) (Nat.le_of_ble_eq_true rfl)
  rw [lg_entry_eq]
  generalize (lg_sl ([.int (nI (a)), .int (nI (b))]) ++ List.replicate (2 - (lg_sl ([.int (nI (a)), .int (nI (b))])).length) Slot.unset).toArray = ls at hl ⊢
  have hl : lv_has ls 2 [(0, .int (nI (a))), (1, .int (nI (b)))] := hl
  suffices Z9 : ∀ (H : Heap) (locs : List Loc), WP nW D cA ad I J X H → va_S (fr nW ad s.heap.size) s.heap H locs → W p l e (headSpec wsJ0_checkIndex_df160 ({ frames := 1, cells := 0, slots := 0, locals := 22 })).room s m ([.int (nI (a)), .int (nI (b))] : List Value).toArray below meth c H locs 0 0 (MQ below (qV nW D cA ad s.heap.size I J X) ([.int (nI (a)), .int (nI (b))] : List Value).toArray s 0 0 (fr nW ad s.heap.size)) (F0 m 0 ls []) from Z9 _ _ hP hS
  clear hP hS
  intro H locs hP hS
  rcases hL.2.1 with hz | ⟨q, hz⟩
  · refine lv_iload_n hx hb dJ0_checkIndex_df160_0 rfl (lv_at hl 0 rfl) ?_
    refine lv_iload_n hx hb dJ0_checkIndex_df160_1 rfl (lv_at hl 1 rfl) ?_
    refine va_gets hx hb (hz) hS hown (hts (.fieldLink RJ0 1053 "jdk/internal/util/Preconditions" "SIOOBE_FORMATTER" "Ljava/util/function/BiFunction;") (List.mem_of_getElem? (i := 1) rfl)) (fun _ h9 => h9) dJ0_checkIndex_df160_2 ?_
    refine w_calli (va_runS (As := [.int (nI (a)), .int (nI (b)), .null]) (rest := []) ⟨hx, hb, hml, hown, hts⟩ (c_J3_n l nW D cA ad K V tO tT hi hNW I J X H.size  a b (by omega) (by omega)) (va_cwS 3 hts gJ0_checkIndex_df160_J3_checkIndex_8e157 rfl rfl rfl (by decide +kernel) ⟨Nat.le_of_ble_eq_true rfl, Nat.le_of_ble_eq_true rfl⟩) (w_preSL hK hP hL hS) rfl rfl hl.1 rfl (lv_room (Nat.le_of_ble_eq_true rfl)) dJ0_checkIndex_df160_5 ⟨Nat.le_of_ble_eq_true rfl, Nat.le_of_ble_eq_true rfl⟩) hS (fun H locs hP hS => ?_)
    refine lv_pop hx hb dJ0_checkIndex_df160_8 rfl ?_
    exact w_vret hx hb hr hlocks hK hP hS ⟨by subst_vars; rfl, by subst_vars; rfl, by subst_vars; rfl⟩ dJ0_checkIndex_df160_9
  · refine lv_iload_n hx hb dJ0_checkIndex_df160_0 rfl (lv_at hl 0 rfl) ?_
    refine lv_iload_n hx hb dJ0_checkIndex_df160_1 rfl (lv_at hl 1 rfl) ?_
    refine va_gets hx hb (hz) hS hown (hts (.fieldLink RJ0 1053 "jdk/internal/util/Preconditions" "SIOOBE_FORMATTER" "Ljava/util/function/BiFunction;") (List.mem_of_getElem? (i := 1) rfl)) (fun _ h9 => h9) dJ0_checkIndex_df160_2 ?_
    refine w_calli (va_runS (As := [.int (nI (a)), .int (nI (b)), .ref (q)]) (rest := []) ⟨hx, hb, hml, hown, hts⟩ (c_J3_r l nW D cA ad K V tO tT hi hNW I J X H.size q a b (by omega) (by omega)) (va_cwS 3 hts gJ0_checkIndex_df160_J3_checkIndex_8e157 rfl rfl rfl (by decide +kernel) ⟨Nat.le_of_ble_eq_true rfl, Nat.le_of_ble_eq_true rfl⟩) (w_preSL hK hP hL hS) rfl rfl hl.1 rfl (lv_room (Nat.le_of_ble_eq_true rfl)) dJ0_checkIndex_df160_5 ⟨Nat.le_of_ble_eq_true rfl, Nat.le_of_ble_eq_true rfl⟩) hS (fun H locs hP hS => ?_)
    refine lv_pop hx hb dJ0_checkIndex_df160_8 rfl ?_
    exact w_vret hx hb hr hlocks hK hP hS ⟨by subst_vars; rfl, by subst_vars; rfl, by subst_vars; rfl⟩ dJ0_checkIndex_df160_9

theorem inJ5_charAt_5068e_J4 : ∀ w ∈ wsJ40, w ∈ wsJ5_charAt_5068e := by decide +kernel
set_option maxHeartbeats 4000000 in
set_option maxRecDepth 100000 in
/-- J5_charAt_5068e -/
theorem c_J5_charAt_5068e (l : Launch) (nW : Nat) (D : va_G) (cA : Nat → ClassId) (ad K V : Nat → Nat) (tO tT : Nat) (hi : inj nW ad) (hNW : 102 ≤ nW) (I : SI) (J : SJ) (X : SX) (sz : Nat) (L : List Nat) (hc : I 100 1 = 0) (z : Nat) (hp : z < L.length) (h16 : L.length ≤ 16) (h8 : L.getD z 0 < 128) : Met l yJ5_charAt_5068e wsJ5_charAt_5068e ({ frames := 2, cells := 0, slots := 0, locals := 43 }) (va_Pc [.ref (ad 100), .int (nI (z))] (wPreL nW D cA ad K V tO tT (tL I L) J X sz)) (qI nW D cA ad sz (nI (L.getD z 0)) (tL I L) J X) 0 0 (fr nW ad sz) := by
  refine Met.ofW (cc := cJ5_charAt_5068e) (maxL := 5) (ret := (some .char)) (by decide) rfl ?_
  intro p e s m args below meth c s₁ B hml hv
  obtain ⟨rfl, ⟨rfl, hP, hK⟩, hL⟩ := hv
  have hx := B.exec
  have hb := B.bytes
  have hr := B.returns
  have hts := atoms_spec (ws := wsJ5_charAt_5068e) B.pre
  have hown : s.vm.findClass RJ5 = some m.cls := findClass_of_methodNamed B.named
  have hlocks := B.notSynchronized
  have hS : va_S (fr nW ad s.heap.size) s.heap s.heap [] := va_S.rf
  have hA : ∀ k, k < nW → fr nW ad s.heap.size (ad k) := fr_ad
  have hl := lv_entry ([.ref (ad 100), .int (nI (z))]) (n := 5) (Nat.le_of_ble_eq_true rfl)
  rw [lg_entry_eq]
  generalize (lg_sl ([.ref (ad 100), .int (nI (z))]) ++ List.replicate (5 - (lg_sl ([.ref (ad 100), .int (nI (z))])).length) Slot.unset).toArray = ls at hl ⊢
  have hl : lv_has ls 5 [(0, .ref (ad 100)), (1, .int (nI (z)))] := hl
  suffices Z9 : ∀ (H : Heap) (locs : List Loc), WP nW D cA ad (tL I L) J X H → va_S (fr nW ad s.heap.size) s.heap H locs → W p l e (headSpec wsJ5_charAt_5068e ({ frames := 2, cells := 0, slots := 0, locals := 43 })).room s m ([.ref (ad 100), .int (nI (z))] : List Value).toArray below meth c H locs 0 0 (MQ below (qI nW D cA ad s.heap.size (nI (L.getD z 0)) (tL I L) J X) ([.ref (ad 100), .int (nI (z))] : List Value).toArray s 0 0 (fr nW ad s.heap.size)) (F0 m 0 ls []) from Z9 _ _ hP hS
  clear hP hS
  intro H locs hP hS
  refine lv_aload_n hx hb dJ5_charAt_5068e_0 rfl (lv_at hl 0 rfl) ?_
  refine w_lget (v := .int ((tL I L) 100 1)) hx hb hts inJ5_charAt_5068e_J4 hown hK hP (by omega) 1 (by decide) rfl (List.mem_of_getElem? (i := 1) rfl) (fun _ h9 => h9) dJ5_charAt_5068e_1 ?_
  refine w_topN (a := 0) ((tL_cod I L).trans hc) ?_
  refine lv_istore_n (lv' := [(2, .int (nI (0))), (0, .ref (ad 100)), (1, .int (nI (z)))]) hx hb dJ5_charAt_5068e_4 rfl hl (by decide) rfl (fun ls hl => ?_)
  refine lv_aload_n hx hb dJ5_charAt_5068e_5 rfl (lv_at hl 1 rfl) ?_
  refine w_lget (v := .ref (ad 101)) hx hb hts inJ5_charAt_5068e_J4 hown hK hP (by omega) 0 (by decide) rfl (List.mem_of_getElem? (i := 2) rfl) (fun _ h9 => h9) dJ5_charAt_5068e_6 ?_
  refine lv_astore_n (lv' := [(3, .ref (ad 101)), (2, .int (nI (0))), (0, .ref (ad 100)), (1, .int (nI (z)))]) hx hb dJ5_charAt_5068e_9 rfl hl (by decide) rfl (fun ls hl => ?_)
  refine lv_aload_n hx hb dJ5_charAt_5068e_10 rfl (lv_at hl 2 rfl) ?_
  refine w_lget (v := .int ((tL I L) 100 3)) hx hb hts inJ5_charAt_5068e_J4 hown hK hP (by omega) 3 (by decide) rfl (List.mem_of_getElem? (i := 3) rfl) (fun _ h9 => h9) dJ5_charAt_5068e_11 ?_
  refine w_topN (a := L.length) (tL_cnt I L) ?_
  refine lv_aload_n hx hb dJ5_charAt_5068e_14 rfl (lv_at hl 0 rfl) ?_
  refine w_alen hx hb hK hP (by omega) dJ5_charAt_5068e_15 ?_
  refine lv_iload_n hx hb dJ5_charAt_5068e_16 rfl (lv_at hl 1 rfl) ?_
  refine lv_ishr hx hb dJ5_charAt_5068e_17 ?_
  refine w_topN (a := 16) ((sh_r0 _).trans rfl) ?_
  refine va_mmin hx hb (hml.trans hl.1.symm) hown (hts (.methodLink RJ5 138 Lib.Math.min.name) (List.mem_of_getElem? (i := 4) rfl)) (hts (.static Lib.Math.min.name) (List.mem_of_getElem? (i := 5) rfl)) (hts (.initialized "java/lang/Math") (List.mem_of_getElem? (i := 6) rfl)) (hts (.code Lib.Math.min.name Lib.Math.min.code 2 (some .int)) (List.mem_of_getElem? (i := 7) rfl)) (Nat.le_of_ble_eq_true rfl) (Nat.le_of_ble_eq_true rfl) (Nat.le_of_ble_eq_true rfl) (Nat.le_of_ble_eq_true rfl) dJ5_charAt_5068e_18 ?_
  refine w_topN (a := L.length) (mn16 L.length (by omega)) ?_
  refine lv_istore (lv' := [(4, .int (nI (L.length))), (3, .ref (ad 101)), (2, .int (nI (0))), (0, .ref (ad 100)), (1, .int (nI (z)))]) hx hb dJ5_charAt_5068e_21 hl (by decide) rfl (fun ls hl => ?_)
  refine lv_iload_n hx hb dJ5_charAt_5068e_23 rfl (lv_at hl 4 rfl) ?_
  refine lv_iload hx hb dJ5_charAt_5068e_24 (lv_at hl 0 rfl) ?_
  refine w_callv (va_runS (As := [.int (nI (z)), .int (nI (L.length))]) (rest := []) ⟨hx, hb, hml, hown, hts⟩ (c_J0_checkIndex_df160 l nW D cA ad K V tO tT hi hNW (tL I L) J X H.size z L.length (by omega) (by omega)) (va_cwS 2 hts gJ5_charAt_5068e_J0_checkIndex_df160 rfl rfl rfl (by decide +kernel) ⟨Nat.le_of_ble_eq_true rfl, Nat.le_of_ble_eq_true rfl⟩) (w_preSL hK hP hL hS) rfl rfl hl.1 rfl (lv_room (Nat.le_of_ble_eq_true rfl)) dJ5_charAt_5068e_26 ⟨Nat.le_of_ble_eq_true rfl, Nat.le_of_ble_eq_true rfl⟩) hS (fun H locs hP hS => ?_)
  refine lv_iload_n hx hb dJ5_charAt_5068e_29 rfl (lv_at hl 2 rfl) ?_
  refine lv_if_ne (tgt := 42) hx hb dJ5_charAt_5068e_30 (by decide) (fun c30 => ?_) (fun c30 => ?_)
  · have qc30 : ¬ 0 = 0 := fun z => c30 ((wn_eq (a := 0) (b := 0) rfl rfl (by omega) (by omega)).mpr z)
    exact absurd qc30 (by omega)
  · have qc30 : 0 = 0 := (wn_eq (a := 0) (b := 0) rfl rfl (by omega) (by omega)).mp c30
    refine lv_aload_n hx hb dJ5_charAt_5068e_33 rfl (lv_at hl 1 rfl) ?_
    refine lv_iload_n hx hb dJ5_charAt_5068e_34 rfl (lv_at hl 4 rfl) ?_
    refine w_bald hx hb hK hP (by omega) (z) (by omega) rfl dJ5_charAt_5068e_35 ?_
    refine lv_sipush (v := 255) hx hb dJ5_charAt_5068e_36 (by decide) ?_
    refine lv_iand hx hb dJ5_charAt_5068e_39 ?_
    refine lv_i2c (v := nI (L.getD z 0)) hx hb dJ5_charAt_5068e_40 (by rw [tL_b I L hp]; exact nI_c _ h8) ?_
    exact w_zret hx hb hr (nI_nc _ h8) hlocks hK hP hS ⟨by subst_vars; rfl, by subst_vars; rfl, by subst_vars; rfl, by subst_vars; rfl⟩ dJ5_charAt_5068e_41

theorem inJ4_charAt_5068e_J4 : ∀ w ∈ wsJ40, w ∈ wsJ4_charAt_5068e := by decide +kernel
set_option maxHeartbeats 4000000 in
set_option maxRecDepth 100000 in
/-- J4_charAt_5068e -/
theorem c_J4_charAt_5068e (l : Launch) (nW : Nat) (D : va_G) (cA : Nat → ClassId) (ad K V : Nat → Nat) (tO tT : Nat) (hi : inj nW ad) (hNW : 102 ≤ nW) (I : SI) (J : SJ) (X : SX) (sz : Nat) (L : List Nat) (hc : I 100 1 = 0) (z : Nat) (hp : z < L.length) (h16 : L.length ≤ 16) (h8 : L.getD z 0 < 128) : Met l yJ4_charAt_5068e wsJ4_charAt_5068e ({ frames := 3, cells := 0, slots := 0, locals := 67 }) (va_Pc [.ref (ad 100), .int (nI (z))] (wPreL nW D cA ad K V tO tT (tL I L) J X sz)) (qI nW D cA ad sz (nI (L.getD z 0)) (tL I L) J X) 0 0 (fr nW ad sz) := by
  refine Met.ofW (cc := cJ4_charAt_5068e) (maxL := 2) (ret := (some .char)) (by decide) rfl ?_
  intro p e s m args below meth c s₁ B hml hv
  obtain ⟨rfl, ⟨rfl, hP, hK⟩, hL⟩ := hv
  have hx := B.exec
  have hb := B.bytes
  have hr := B.returns
  have hts := atoms_spec (ws := wsJ4_charAt_5068e) B.pre
  have hown : s.vm.findClass RJ4 = some m.cls := findClass_of_methodNamed B.named
  have hlocks := B.notSynchronized
  have hS : va_S (fr nW ad s.heap.size) s.heap s.heap [] := va_S.rf
  have hA : ∀ k, k < nW → fr nW ad s.heap.size (ad k) := fr_ad
  have hl := lv_entry ([.ref (ad 100), .int (nI (z))]) (n := 2) (Nat.le_of_ble_eq_true rfl)
  rw [lg_entry_eq]
  generalize (lg_sl ([.ref (ad 100), .int (nI (z))]) ++ List.replicate (2 - (lg_sl ([.ref (ad 100), .int (nI (z))])).length) Slot.unset).toArray = ls at hl ⊢
  have hl : lv_has ls 2 [(0, .ref (ad 100)), (1, .int (nI (z)))] := hl
  suffices Z9 : ∀ (H : Heap) (locs : List Loc), WP nW D cA ad (tL I L) J X H → va_S (fr nW ad s.heap.size) s.heap H locs → W p l e (headSpec wsJ4_charAt_5068e ({ frames := 3, cells := 0, slots := 0, locals := 67 })).room s m ([.ref (ad 100), .int (nI (z))] : List Value).toArray below meth c H locs 0 0 (MQ below (qI nW D cA ad s.heap.size (nI (L.getD z 0)) (tL I L) J X) ([.ref (ad 100), .int (nI (z))] : List Value).toArray s 0 0 (fr nW ad s.heap.size)) (F0 m 0 ls []) from Z9 _ _ hP hS
  clear hP hS
  intro H locs hP hS
  refine lv_aload_n hx hb dJ4_charAt_5068e_0 rfl (lv_at hl 0 rfl) ?_
  refine lv_iload_n hx hb dJ4_charAt_5068e_1 rfl (lv_at hl 1 rfl) ?_
  have hat : ClassAt s RJ4 (D.1 1) := ⟨(hK.1 1 _ rfl).2.1, (hK.1 1 _ rfl).2.2⟩
  refine w_calli (va_runSU (As := [.int (nI (z))]) (rest := []) hat ⟨hx, hb, hml, hown, hts⟩ (c_J5_charAt_5068e l nW D cA ad K V tO tT hi hNW I J X H.size L hc z hp h16 h8) (va_cwSU 1 hts gJ4_charAt_5068e_J5_charAt_5068e_s329 rfl rfl rfl (by decide +kernel) ⟨Nat.le_of_ble_eq_true rfl, Nat.le_of_ble_eq_true rfl⟩) (w_preVL hK hP hL hS 100 (by omega) ⟨rfl, rfl⟩ rfl) rfl rfl hl.1 rfl (lv_room (Nat.le_of_ble_eq_true rfl)) dJ4_charAt_5068e_2 ⟨Nat.le_of_ble_eq_true rfl, Nat.le_of_ble_eq_true rfl⟩) hS (fun H locs hP hS => ?_)
  exact w_zret hx hb hr (nI_nc _ h8) hlocks hK hP hS ⟨by subst_vars; rfl, by subst_vars; rfl, by subst_vars; rfl, by subst_vars; rfl⟩ dJ4_charAt_5068e_5

set_option maxHeartbeats 4000000 in
set_option maxRecDepth 100000 in
/-- X4_barText -/
theorem c_X4_barText (l : Launch) (nW : Nat) (D : va_G) (cA : Nat → ClassId) (ad K V : Nat → Nat) (tO tT : Nat) (hi : inj nW ad) (hNW : 102 ≤ nW) (I : SI) (J : SJ) (X : SX) (sz : Nat) (h : Nat) (hh3 : h < 3) : Met l yX4_barText wsX4_barText ({ frames := 0, cells := 0, slots := 0, locals := 0 }) (va_Pc [.int (nI (h))] (wPreL nW D cA ad K V tO tT I J X sz)) (qA nW D cA ad sz (K (btN h)) I J X) 0 0 (fr nW ad sz) := by
  refine Met.ofW (cc := cX4_barText) (maxL := 1) (ret := (some (.object "java/lang/String"))) (by decide) rfl ?_
  intro p e s m args below meth c s₁ B hml hv
  obtain ⟨rfl, ⟨rfl, hP, hK⟩, hL⟩ := hv
  have hx := B.exec
  have hb := B.bytes
  have hr := B.returns
  have hts := atoms_spec (ws := wsX4_barText) B.pre
  have hown : s.vm.findClass RX4 = some m.cls := findClass_of_methodNamed B.named
  have hlocks := B.notSynchronized
  have hS : va_S (fr nW ad s.heap.size) s.heap s.heap [] := va_S.rf
  have hA : ∀ k, k < nW → fr nW ad s.heap.size (ad k) := fr_ad
  have hl := lv_entry ([.int (nI (h))]) (n := 1) (Nat.le_of_ble_eq_true rfl)
  rw [lg_entry_eq]
  generalize (lg_sl ([.int (nI (h))]) ++ List.replicate (1 - (lg_sl ([.int (nI (h))])).length) Slot.unset).toArray = ls at hl ⊢
  have hl : lv_has ls 1 [(0, .int (nI (h)))] := hl
  suffices Z9 : ∀ (H : Heap) (locs : List Loc), WP nW D cA ad I J X H → va_S (fr nW ad s.heap.size) s.heap H locs → W p l e (headSpec wsX4_barText ({ frames := 0, cells := 0, slots := 0, locals := 0 })).room s m ([.int (nI (h))] : List Value).toArray below meth c H locs 0 0 (MQ below (qA nW D cA ad s.heap.size (K (btN h)) I J X) ([.int (nI (h))] : List Value).toArray s 0 0 (fr nW ad s.heap.size)) (F0 m 0 ls []) from Z9 _ _ hP hS
  clear hP hS
  intro H locs hP hS
  refine lv_iload_n hx hb dX4_barText_0 rfl (lv_at hl 0 rfl) ?_
  refine lv_if_ne (tgt := 7) hx hb dX4_barText_1 (by decide) (fun c_1 => ?_) (fun c_1 => ?_)
  · have qc_1 : ¬ h = 0 := fun z => c_1 ((wn_eq (a := h) (b := 0) rfl rfl (by omega) (by omega)).mpr z)
    refine lv_iload_n hx hb dX4_barText_7 rfl (lv_at hl 0 rfl) ?_
    refine lv_iconst (v := 1) hx hb dX4_barText_8 (by decide) ?_
    refine lv_icmp_ne (tgt := 17) hx hb dX4_barText_9 (by decide) (fun c_2 => ?_) (fun c_2 => ?_)
    · have qc_2 : ¬ h = 1 := fun z => c_2 ((wn_eq (a := h) (b := 1) rfl rfl (by omega) (by omega)).mpr z)
      refine va_ldcS hx hb hown (hL.2.2.2.2 4 (by decide)).2.2.2.2 dX4_barText_17 ?_
      exact w_aret hx hb hr ⟨_, rfl⟩ hlocks hK hP hS ⟨by first | rw [bt0 (by omega)] | rw [bt1 (by omega)] | rw [bt2 (by omega) (by omega)], rfl, rfl, rfl⟩ dX4_barText_19
    · have qc_2 : h = 1 := (wn_eq (a := h) (b := 1) rfl rfl (by omega) (by omega)).mp c_2
      refine va_ldcS hx hb hown (hL.2.2.2.2 3 (by decide)).2.2.2.2 dX4_barText_12 ?_
      refine lv_goto (tgt := 19) hx hb dX4_barText_14 (by decide) ?_
      exact w_aret hx hb hr ⟨_, rfl⟩ hlocks hK hP hS ⟨by first | rw [bt0 (by omega)] | rw [bt1 (by omega)] | rw [bt2 (by omega) (by omega)], rfl, rfl, rfl⟩ dX4_barText_19
  · have qc_1 : h = 0 := (wn_eq (a := h) (b := 0) rfl rfl (by omega) (by omega)).mp c_1
    refine va_ldcS hx hb hown (hL.2.2.2.2 2 (by decide)).2.2.2.2 dX4_barText_4 ?_
    exact w_aret hx hb hr ⟨_, rfl⟩ hlocks hK hP hS ⟨by first | rw [bt0 (by omega)] | rw [bt1 (by omega)] | rw [bt2 (by omega) (by omega)], rfl, rfl, rfl⟩ dX4_barText_6
