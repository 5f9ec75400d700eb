/-! the class's text: the line written, a sign told -/

theorem inX4_writeLine_X1 : ∀ w ∈ wsX10, w ∈ wsX4_writeLine := by decide +kernel
theorem inX4_writeLine_X4 : ∀ w ∈ wsX40, w ∈ wsX4_writeLine := by decide +kernel
theorem inX4_writeLine_J4 : ∀ w ∈ wsJ40, w ∈ wsX4_writeLine := by decide +kernel
set_option maxHeartbeats 4000000 in
set_option maxRecDepth 100000 in
/-- X4_writeLine -/
theorem c_X4_writeLine (l : Launch) (nW : Nat) (D : va_G) (cA : Nat → ClassId) (ad K V : Nat → Nat) (tO tT : Nat) (hi : inj nW ad) (hNW : 102 ≤ nW) (I : SI) (J : SJ) (X : SX) (sz : Nat) (r b w h n : Nat) (hr4 : r < 4) (hb5 : b < 5) (hw : I (3 + r) b = nI w) (hw9 : w < 100) (hh : I 7 b = nI h) (hh3 : h < 3) (hn : I 100 3 = nI n) (hn9 : n < 2147483648) (hc : I 100 1 = 0) : Met l yX4_writeLine wsX4_writeLine ({ frames := 5, cells := 0, slots := 0, locals := 128 }) (va_Pc [.ref (ad 0), .int (nI (r)), .int (nI (b))] (wPreL nW D cA ad K V tO tT I J X sz)) (qV nW D cA ad sz (tL (sbM I n) (lineL r b w h)) J X) 0 0 (fr nW ad sz) := by
  refine Met.ofW (cc := cX4_writeLine) (maxL := 4) (ret := none) (by decide) rfl ?_
  intro p e s m args below meth c s₁ B hml hv
  obtain ⟨rfl, ⟨rfl, hP, hK⟩, hL⟩ := hv
  have hx := B.exec
  have hb := B.bytes
  have hr := B.returns
  have hts := atoms_spec (ws := wsX4_writeLine) B.pre
  have hown : s.vm.findClass RX4 = some m.cls := findClass_of_methodNamed B.named
  have hlocks := B.notSynchronized
  have hS : va_S (fr nW ad s.heap.size) s.heap s.heap [] := va_S.rf
  have hA : ∀ k, k < nW → fr nW ad s.heap.size (ad k) := fr_ad
  have hl := lv_entry ([.ref (ad 0), .int (nI (r)), .int (nI (b))]) (n := 4) (Nat.le_of_ble_eq_true rfl)
  rw [lg_entry_eq]
  generalize (lg_sl ([.ref (ad 0), .int (nI (r)), .int (nI (b))]) ++ List.replicate (4 - (lg_sl ([.ref (ad 0), .int (nI (r)), .int (nI (b))])).length) Slot.unset).toArray = ls at hl ⊢
  have hl : lv_has ls 4 [(0, .ref (ad 0)), (1, .int (nI (r))), (2, .int (nI (b)))] := hl
  suffices Z9 : ∀ (H : Heap) (locs : List Loc), WP nW D cA ad I J X H → va_S (fr nW ad s.heap.size) s.heap H locs → W p l e (headSpec wsX4_writeLine ({ frames := 5, cells := 0, slots := 0, locals := 128 })).room s m ([.ref (ad 0), .int (nI (r)), .int (nI (b))] : List Value).toArray below meth c H locs 0 0 (MQ below (qV nW D cA ad s.heap.size (tL (sbM I n) (lineL r b w h)) J X) ([.ref (ad 0), .int (nI (r)), .int (nI (b))] : List Value).toArray s 0 0 (fr nW ad s.heap.size)) (F0 m 0 ls []) from Z9 _ _ hP hS
  clear hP hS
  intro H locs hP hS
  have hM : ∀ a b, ¬ (a = 100 ∧ b = 2) → sbM I n a b = I a b := fun a b z => sbM_o I n z
  have hc' : sbM I n 100 1 = 0 := (hM _ _ (by decide)).trans hc
  have h1 := dg_1 (k := r) (by omega)
  have h2 := dg_1 (k := b) (by omega)
  have h3 := dg_2 w
  have h4 : (liL 1).length = 2 := rfl
  have h5 : liN 1 = 2 := rfl
  have h6 : liN 0 = 4 := rfl
  have h7 := liN_le _ (btN_lt h)
  have h9 := btN_lt h
  refine lv_aload_n hx hb dX4_writeLine_0 rfl (lv_at hl 0 rfl) ?_
  refine w_get (C := RX4) (T := TX4) (N := 7) (v := .ref (ad 100)) (index := 39) hx hb hts inX4_writeLine_X4 hown hK hP 0 4 ⟨rfl, rfl, by decide⟩ (by omega) rfl (List.mem_of_getElem? (i := 1) rfl) (fun _ h9 => h9) dX4_writeLine_1 ?_
  refine lv_iconst (v := 0) hx hb dX4_writeLine_4 (by decide) ?_
  refine w_callv (va_runV (As := [.int (0)]) (rest := []) ⟨hx, hb, hml, hown, hts⟩ (c_J4_setLength_d00df l nW D cA ad K V tO tT hi hNW I J X H.size n hn hn9 hc) (cwV 1 hts gX4_writeLine_J4_setLength_d00df rfl rfl rfl (by decide +kernel) ⟨Nat.le_of_ble_eq_true rfl, Nat.le_of_ble_eq_true rfl⟩) (w_preVL hK hP hL hS 100 (by omega) ⟨rfl, rfl⟩ rfl) rfl rfl hl.1 rfl (lv_room (Nat.le_of_ble_eq_true rfl)) dX4_writeLine_5 ⟨Nat.le_of_ble_eq_true rfl, Nat.le_of_ble_eq_true rfl⟩) hS (fun H locs hP hS => ?_)
  refine lv_aload_n hx hb dX4_writeLine_8 rfl (lv_at hl 0 rfl) ?_
  refine w_get (C := RX4) (T := TX4) (N := 7) (v := .ref (ad 1)) (index := 12) hx hb hts inX4_writeLine_X4 hown hK hP 0 0 ⟨rfl, rfl, by decide⟩ (by omega) rfl (List.mem_of_getElem? (i := 2) rfl) (fun _ h9 => h9) dX4_writeLine_9 ?_
  refine lv_iload_n hx hb dX4_writeLine_12 rfl (lv_at hl 1 rfl) ?_
  refine lv_iload_n hx hb dX4_writeLine_13 rfl (lv_at hl 2 rfl) ?_
  refine w_calli (va_runV (As := [.int (nI (r)), .int (nI (b))]) (rest := []) ⟨hx, hb, hml, hown, hts⟩ (c_X1_loanWeight l nW D cA ad hi hNW (tL (sbM I n) []) J X H.size r b (by omega) (by omega)) (cwV 2 hts gX4_writeLine_X1_loanWeight rfl rfl rfl (by decide +kernel) ⟨Nat.le_of_ble_eq_true rfl, Nat.le_of_ble_eq_true rfl⟩) (w_preV hK hP 1 (by omega) ⟨rfl, rfl⟩ rfl) rfl rfl hl.1 rfl (lv_room (Nat.le_of_ble_eq_true rfl)) dX4_writeLine_14 ⟨Nat.le_of_ble_eq_true rfl, Nat.le_of_ble_eq_true rfl⟩) hS (fun H locs hP hS => ?_)
  refine w_topN (a := w) (by rw [tL_o _ _ (by omega), hM _ _ (by omega)]; exact hw) ?_
  refine lv_istore_n (lv' := [(3, .int (nI (w))), (0, .ref (ad 0)), (1, .int (nI (r))), (2, .int (nI (b)))]) hx hb dX4_writeLine_17 rfl hl (by decide) rfl (fun ls hl => ?_)
  refine lv_iload_n hx hb dX4_writeLine_18 rfl (lv_at hl 0 rfl) ?_
  refine lv_if_ne (tgt := 33) hx hb dX4_writeLine_19 (by decide) (fun c19 => ?_) (fun c19 => ?_)
  · have qc19 : ¬ w = 0 := fun z => c19 ((wn_eq (a := w) (b := 0) rfl rfl (by omega) (by omega)).mpr z)
    refine lv_aload_n hx hb dX4_writeLine_33 rfl (lv_at hl 1 rfl) ?_
    refine w_get (C := RX4) (T := TX4) (N := 7) (v := .ref (ad 100)) (index := 39) hx hb hts inX4_writeLine_X4 hown hK hP 0 4 ⟨rfl, rfl, by decide⟩ (by omega) rfl (List.mem_of_getElem? (i := 1) rfl) (fun _ h9 => h9) dX4_writeLine_34 ?_
    refine lv_bipush (v := 114) hx hb dX4_writeLine_37 (by decide) ?_
    refine w_callr (va_runV (As := [.int (114)]) (rest := []) ⟨hx, hb, hml, hown, hts⟩ (c_J4_append_cf468 l nW D cA ad K V tO tT hi hNW (sbM I n) J X H.size ([]) hc' 114 (by omega) (by first | omega | (simp only [List.length_append, List.length_cons, List.length_nil]; omega))) (cwV 1 hts gX4_writeLine_J4_append_cf468 rfl rfl rfl (by decide +kernel) ⟨Nat.le_of_ble_eq_true rfl, Nat.le_of_ble_eq_true rfl⟩) (w_preVL hK hP hL hS 100 (by omega) ⟨rfl, rfl⟩ rfl) rfl rfl hl.1 rfl (lv_room (Nat.le_of_ble_eq_true rfl)) dX4_writeLine_39 ⟨Nat.le_of_ble_eq_true rfl, Nat.le_of_ble_eq_true rfl⟩) hS (fun H locs hP hS => ?_)
    refine lv_iload_n hx hb dX4_writeLine_42 rfl (lv_at hl 2 rfl) ?_
    refine w_callr (va_runV (As := [.int (nI (r))]) (rest := []) ⟨hx, hb, hml, hown, hts⟩ (c_J4_append_bf812 l nW D cA ad K V tO tT hi hNW (sbM I n) J X H.size (([]) ++ [114]) hc' r (by omega) (by first | omega | (simp only [List.length_append, List.length_cons, List.length_nil]; omega))) (cwV 1 hts gX4_writeLine_J4_append_bf812 rfl rfl rfl (by decide +kernel) ⟨Nat.le_of_ble_eq_true rfl, Nat.le_of_ble_eq_true rfl⟩) (w_preVL hK hP hL hS 100 (by omega) ⟨rfl, rfl⟩ rfl) rfl rfl hl.1 rfl (lv_room (Nat.le_of_ble_eq_true rfl)) dX4_writeLine_43 ⟨Nat.le_of_ble_eq_true rfl, Nat.le_of_ble_eq_true rfl⟩) hS (fun H locs hP hS => ?_)
    refine va_ldcS hx hb hown (hL.2.2.2.2 1 (by decide)).2.2.2.2 dX4_writeLine_46 ?_
    refine w_callr (va_runV (As := [.ref (K 1)]) (rest := []) ⟨hx, hb, hml, hown, hts⟩ (c_J4_append_15ec4 l nW D cA ad K V tO tT hi hNW (sbM I n) J X H.size ((([]) ++ [114]) ++ dg r) hc' 1 (by omega) (by first | omega | (simp only [List.length_append, List.length_cons, List.length_nil]; omega))) (cwV 1 hts gX4_writeLine_J4_append_15ec4 rfl rfl rfl (by decide +kernel) ⟨Nat.le_of_ble_eq_true rfl, Nat.le_of_ble_eq_true rfl⟩) (w_preVL hK hP hL hS 100 (by omega) ⟨rfl, rfl⟩ rfl) rfl rfl hl.1 rfl (lv_room (Nat.le_of_ble_eq_true rfl)) dX4_writeLine_48 ⟨Nat.le_of_ble_eq_true rfl, Nat.le_of_ble_eq_true rfl⟩) hS (fun H locs hP hS => ?_)
    refine lv_iload_n hx hb dX4_writeLine_51 rfl (lv_at hl 3 rfl) ?_
    refine w_callr (va_runV (As := [.int (nI (b))]) (rest := []) ⟨hx, hb, hml, hown, hts⟩ (c_J4_append_bf812 l nW D cA ad K V tO tT hi hNW (sbM I n) J X H.size (((([]) ++ [114]) ++ dg r) ++ liL 1) hc' b (by omega) (by first | omega | (simp only [List.length_append, List.length_cons, List.length_nil]; omega))) (cwV 1 hts gX4_writeLine_J4_append_bf812 rfl rfl rfl (by decide +kernel) ⟨Nat.le_of_ble_eq_true rfl, Nat.le_of_ble_eq_true rfl⟩) (w_preVL hK hP hL hS 100 (by omega) ⟨rfl, rfl⟩ rfl) rfl rfl hl.1 rfl (lv_room (Nat.le_of_ble_eq_true rfl)) dX4_writeLine_52 ⟨Nat.le_of_ble_eq_true rfl, Nat.le_of_ble_eq_true rfl⟩) hS (fun H locs hP hS => ?_)
    refine lv_pop hx hb dX4_writeLine_55 rfl ?_
    refine lv_aload_n hx hb dX4_writeLine_56 rfl (lv_at hl 1 rfl) ?_
    refine w_get (C := RX4) (T := TX4) (N := 7) (v := .ref (ad 100)) (index := 39) hx hb hts inX4_writeLine_X4 hown hK hP 0 4 ⟨rfl, rfl, by decide⟩ (by omega) rfl (List.mem_of_getElem? (i := 1) rfl) (fun _ h9 => h9) dX4_writeLine_57 ?_
    refine lv_bipush (v := 58) hx hb dX4_writeLine_60 (by decide) ?_
    refine w_callr (va_runV (As := [.int (58)]) (rest := []) ⟨hx, hb, hml, hown, hts⟩ (c_J4_append_cf468 l nW D cA ad K V tO tT hi hNW (sbM I n) J X H.size ((((([]) ++ [114]) ++ dg r) ++ liL 1) ++ dg b) hc' 58 (by omega) (by first | omega | (simp only [List.length_append, List.length_cons, List.length_nil]; omega))) (cwV 1 hts gX4_writeLine_J4_append_cf468 rfl rfl rfl (by decide +kernel) ⟨Nat.le_of_ble_eq_true rfl, Nat.le_of_ble_eq_true rfl⟩) (w_preVL hK hP hL hS 100 (by omega) ⟨rfl, rfl⟩ rfl) rfl rfl hl.1 rfl (lv_room (Nat.le_of_ble_eq_true rfl)) dX4_writeLine_62 ⟨Nat.le_of_ble_eq_true rfl, Nat.le_of_ble_eq_true rfl⟩) hS (fun H locs hP hS => ?_)
    refine lv_iload_n hx hb dX4_writeLine_65 rfl (lv_at hl 0 rfl) ?_
    refine w_callr (va_runV (As := [.int (nI (w))]) (rest := []) ⟨hx, hb, hml, hown, hts⟩ (c_J4_append_bf812 l nW D cA ad K V tO tT hi hNW (sbM I n) J X H.size (((((([]) ++ [114]) ++ dg r) ++ liL 1) ++ dg b) ++ [58]) hc' w (by omega) (by first | omega | (simp only [List.length_append, List.length_cons, List.length_nil]; omega))) (cwV 1 hts gX4_writeLine_J4_append_bf812 rfl rfl rfl (by decide +kernel) ⟨Nat.le_of_ble_eq_true rfl, Nat.le_of_ble_eq_true rfl⟩) (w_preVL hK hP hL hS 100 (by omega) ⟨rfl, rfl⟩ rfl) rfl rfl hl.1 rfl (lv_room (Nat.le_of_ble_eq_true rfl)) dX4_writeLine_66 ⟨Nat.le_of_ble_eq_true rfl, Nat.le_of_ble_eq_true rfl⟩) hS (fun H locs hP hS => ?_)
    refine lv_aload_n hx hb dX4_writeLine_69 rfl (lv_at hl 1 rfl) ?_
    refine w_get (C := RX4) (T := TX4) (N := 7) (v := .ref (ad 1)) (index := 12) hx hb hts inX4_writeLine_X4 hown hK hP 0 0 ⟨rfl, rfl, by decide⟩ (by omega) rfl (List.mem_of_getElem? (i := 2) rfl) (fun _ h9 => h9) dX4_writeLine_70 ?_
    refine lv_iload_n hx hb dX4_writeLine_73 rfl (lv_at hl 3 rfl) ?_
    refine w_calli (va_runV (As := [.int (nI (b))]) (rest := [.ref (ad 100)]) ⟨hx, hb, hml, hown, hts⟩ (c_X1_barOf l nW D cA ad hi hNW (tL (sbM I n) ((((((([]) ++ [114]) ++ dg r) ++ liL 1) ++ dg b) ++ [58]) ++ dg w)) J X H.size b (by omega)) (cwV 1 hts gX4_writeLine_X1_barOf rfl rfl rfl (by decide +kernel) ⟨Nat.le_of_ble_eq_true rfl, Nat.le_of_ble_eq_true rfl⟩) (w_preV hK hP 1 (by omega) ⟨rfl, rfl⟩ rfl) rfl rfl hl.1 rfl (lv_room (Nat.le_of_ble_eq_true rfl)) dX4_writeLine_74 ⟨Nat.le_of_ble_eq_true rfl, Nat.le_of_ble_eq_true rfl⟩) hS (fun H locs hP hS => ?_)
    refine w_topN (a := h) (by rw [tL_o _ _ (by omega), hM _ _ (by omega)]; exact hh) ?_
    refine w_callr (va_runS (As := [.int (nI (h))]) (rest := [.ref (ad 100)]) ⟨hx, hb, hml, hown, hts⟩ (c_X4_barText l nW D cA ad K V tO tT hi hNW (tL (sbM I n) ((((((([]) ++ [114]) ++ dg r) ++ liL 1) ++ dg b) ++ [58]) ++ dg w)) J X H.size h (by omega)) (va_cwS 1 hts gX4_writeLine_X4_barText rfl rfl rfl (by decide +kernel) ⟨Nat.le_of_ble_eq_true rfl, Nat.le_of_ble_eq_true rfl⟩) (w_preSL hK hP hL hS) rfl rfl hl.1 rfl (lv_room (Nat.le_of_ble_eq_true rfl)) dX4_writeLine_77 ⟨Nat.le_of_ble_eq_true rfl, Nat.le_of_ble_eq_true rfl⟩) hS (fun H locs hP hS => ?_)
    refine w_callr (va_runV (As := [.ref (K ((btN h)))]) (rest := []) ⟨hx, hb, hml, hown, hts⟩ (c_J4_append_15ec4 l nW D cA ad K V tO tT hi hNW (sbM I n) J X H.size ((((((([]) ++ [114]) ++ dg r) ++ liL 1) ++ dg b) ++ [58]) ++ dg w) hc' ((btN h)) (by omega) (by first | omega | (simp only [List.length_append, List.length_cons, List.length_nil]; omega))) (cwV 1 hts gX4_writeLine_J4_append_15ec4 rfl rfl rfl (by decide +kernel) ⟨Nat.le_of_ble_eq_true rfl, Nat.le_of_ble_eq_true rfl⟩) (w_preVL hK hP hL hS 100 (by omega) ⟨rfl, rfl⟩ rfl) rfl rfl hl.1 rfl (lv_room (Nat.le_of_ble_eq_true rfl)) dX4_writeLine_80 ⟨Nat.le_of_ble_eq_true rfl, Nat.le_of_ble_eq_true rfl⟩) hS (fun H locs hP hS => ?_)
    refine lv_pop hx hb dX4_writeLine_83 rfl ?_
    exact w_vret hx hb hr hlocks hK hP hS ⟨by unfold lineL; rw [if_neg (by omega)], rfl, rfl⟩ dX4_writeLine_84
  · have qc19 : w = 0 := (wn_eq (a := w) (b := 0) rfl rfl (by omega) (by omega)).mp c19
    refine lv_aload_n hx hb dX4_writeLine_22 rfl (lv_at hl 1 rfl) ?_
    refine w_get (C := RX4) (T := TX4) (N := 7) (v := .ref (ad 100)) (index := 39) hx hb hts inX4_writeLine_X4 hown hK hP 0 4 ⟨rfl, rfl, by decide⟩ (by omega) rfl (List.mem_of_getElem? (i := 1) rfl) (fun _ h9 => h9) dX4_writeLine_23 ?_
    refine va_ldcS hx hb hown (hL.2.2.2.2 0 (by decide)).2.2.2.2 dX4_writeLine_26 ?_
    refine w_callr (va_runV (As := [.ref (K 0)]) (rest := []) ⟨hx, hb, hml, hown, hts⟩ (c_J4_append_15ec4 l nW D cA ad K V tO tT hi hNW (sbM I n) J X H.size ([]) hc' 0 (by omega) (by first | omega | (simp only [List.length_append, List.length_cons, List.length_nil]; omega))) (cwV 1 hts gX4_writeLine_J4_append_15ec4 rfl rfl rfl (by decide +kernel) ⟨Nat.le_of_ble_eq_true rfl, Nat.le_of_ble_eq_true rfl⟩) (w_preVL hK hP hL hS 100 (by omega) ⟨rfl, rfl⟩ rfl) rfl rfl hl.1 rfl (lv_room (Nat.le_of_ble_eq_true rfl)) dX4_writeLine_28 ⟨Nat.le_of_ble_eq_true rfl, Nat.le_of_ble_eq_true rfl⟩) hS (fun H locs hP hS => ?_)
    refine lv_pop hx hb dX4_writeLine_31 rfl ?_
    exact w_vret hx hb hr hlocks hK hP hS ⟨by unfold lineL; rw [if_pos (by omega)], rfl, rfl⟩ dX4_writeLine_32

theorem inX4_text_X1 : ∀ w ∈ wsX10, w ∈ wsX4_text := by decide +kernel
theorem inX4_text_X4 : ∀ w ∈ wsX40, w ∈ wsX4_text := by decide +kernel
theorem inX4_text_J4 : ∀ w ∈ wsJ40, w ∈ wsX4_text := by decide +kernel
set_option maxHeartbeats 4000000 in
set_option maxRecDepth 100000 in
/-- X4_text -/
theorem c_X4_text_ok (l : Launch) (nW : Nat) (D : va_G) (cA : Nat → ClassId) (ad K V : Nat → Nat) (tO tT : Nat) (hi : inj nW ad) (hNW : 102 ≤ nW) (I : SI) (J : SJ) (X : SX) (sz : Nat) (r b w h n : Nat) (hr4 : r < 4) (hb5 : b < 5) (hw : I (3 + r) b = nI w) (hw9 : w < 100) (hh : I 7 b = nI h) (hh3 : h < 3) (hn : I 100 3 = nI n) (hn9 : n < 2147483648) (hc : I 100 1 = 0) (pl : Nat) (hz9 : pl < 2147483648) : Met l yX4_text wsX4_text ({ frames := 6, cells := 0, slots := 0, locals := 151 }) (va_Pc [.ref (ad 0), .int (nI (r)), .int (nI (b)), .int (nI (pl))] (wPreL nW D cA ad K V tO tT I J X sz)) (qI nW D cA ad sz (nI ((lineL r b w h).getD pl 0)) (tL (sbM I n) (lineL r b w h)) J X) 0 0 (fr nW ad sz) := by
  refine Met.ofW (cc := cX4_text) (maxL := 4) (ret := (some .char)) (by decide) rfl ?_
  intro p e s m args below meth c s₁ B hml hv
  obtain ⟨rfl, ⟨rfl, hP, hK⟩, hL⟩ := hv
  have hx := B.exec
  have hb := B.bytes
  have hr := B.returns
  have hts := atoms_spec (ws := wsX4_text) B.pre
  have hown : s.vm.findClass RX4 = some m.cls := findClass_of_methodNamed B.named
  have hlocks := B.notSynchronized
  have hS : va_S (fr nW ad s.heap.size) s.heap s.heap [] := va_S.rf
  have hA : ∀ k, k < nW → fr nW ad s.heap.size (ad k) := fr_ad
  have hl := lv_entry ([.ref (ad 0), .int (nI (r)), .int (nI (b)), .int (nI (pl))]) (n := 4) (Nat.le_of_ble_eq_true rfl)
  rw [lg_entry_eq]
  generalize (lg_sl ([.ref (ad 0), .int (nI (r)), .int (nI (b)), .int (nI (pl))]) ++ List.replicate (4 - (lg_sl ([.ref (ad 0), .int (nI (r)), .int (nI (b)), .int (nI (pl))])).length) Slot.unset).toArray = ls at hl ⊢
  have hl : lv_has ls 4 [(0, .ref (ad 0)), (1, .int (nI (r))), (2, .int (nI (b))), (3, .int (nI (pl)))] := hl
  suffices Z9 : ∀ (H : Heap) (locs : List Loc), WP nW D cA ad I J X H → va_S (fr nW ad s.heap.size) s.heap H locs → W p l e (headSpec wsX4_text ({ frames := 6, cells := 0, slots := 0, locals := 151 })).room s m ([.ref (ad 0), .int (nI (r)), .int (nI (b)), .int (nI (pl))] : List Value).toArray below meth c H locs 0 0 (MQ below (qI nW D cA ad s.heap.size (nI ((lineL r b w h).getD pl 0)) (tL (sbM I n) (lineL r b w h)) J X) ([.ref (ad 0), .int (nI (r)), .int (nI (b)), .int (nI (pl))] : List Value).toArray s 0 0 (fr nW ad s.heap.size)) (F0 m 0 ls []) from Z9 _ _ hP hS
  clear hP hS
  intro H locs hP hS
  have hl15 := lineL_len w h hr4 hb5
  have h8 := getD_s (lineL_s h hr4 hb5 hw9) pl
  have hc' : sbM I n 100 1 = 0 := (sbM_o I n (by decide)).trans hc
  refine lv_iload_n hx hb dX4_text_0 rfl (lv_at hl 1 rfl) ?_
  refine w_callv (va_runS (As := [.int (nI (r))]) (rest := []) ⟨hx, hb, hml, hown, hts⟩ (c_X4_checkReader l nW D cA ad hi hNW I J X H.size r (by omega)) (va_cwS 1 hts gX4_text_X4_checkReader rfl rfl rfl (by decide +kernel) ⟨Nat.le_of_ble_eq_true rfl, Nat.le_of_ble_eq_true rfl⟩) (w_preS hK hP) rfl rfl hl.1 rfl (lv_room (Nat.le_of_ble_eq_true rfl)) dX4_text_1 ⟨Nat.le_of_ble_eq_true rfl, Nat.le_of_ble_eq_true rfl⟩) hS (fun H locs hP hS => ?_)
  refine lv_iload_n hx hb dX4_text_4 rfl (lv_at hl 2 rfl) ?_
  refine w_callv (va_runS (As := [.int (nI (b))]) (rest := []) ⟨hx, hb, hml, hown, hts⟩ (c_X4_checkBook l nW D cA ad hi hNW I J X H.size b (by omega)) (va_cwS 1 hts gX4_text_X4_checkBook rfl rfl rfl (by decide +kernel) ⟨Nat.le_of_ble_eq_true rfl, Nat.le_of_ble_eq_true rfl⟩) (w_preS hK hP) rfl rfl hl.1 rfl (lv_room (Nat.le_of_ble_eq_true rfl)) dX4_text_5 ⟨Nat.le_of_ble_eq_true rfl, Nat.le_of_ble_eq_true rfl⟩) hS (fun H locs hP hS => ?_)
  refine lv_iload_n hx hb dX4_text_8 rfl (lv_at hl 3 rfl) ?_
  refine w_callv (va_runS (As := [.int (nI (pl))]) (rest := []) ⟨hx, hb, hml, hown, hts⟩ (c_X4_checkPlace l nW D cA ad hi hNW I J X H.size (nI (pl)) (nI_pos (by omega))) (va_cwS 1 hts gX4_text_X4_checkPlace rfl rfl rfl (by decide +kernel) ⟨Nat.le_of_ble_eq_true rfl, Nat.le_of_ble_eq_true rfl⟩) (w_preS hK hP) rfl rfl hl.1 rfl (lv_room (Nat.le_of_ble_eq_true rfl)) dX4_text_9 ⟨Nat.le_of_ble_eq_true rfl, Nat.le_of_ble_eq_true rfl⟩) hS (fun H locs hP hS => ?_)
  refine lv_aload_n hx hb dX4_text_12 rfl (lv_at hl 0 rfl) ?_
  refine lv_iload_n hx hb dX4_text_13 rfl (lv_at hl 1 rfl) ?_
  refine lv_iload_n hx hb dX4_text_14 rfl (lv_at hl 2 rfl) ?_
  refine w_callv (va_runV (As := [.int (nI (r)), .int (nI (b))]) (rest := []) ⟨hx, hb, hml, hown, hts⟩ (c_X4_writeLine l nW D cA ad K V tO tT hi hNW I J X H.size r b w h n hr4 hb5 hw hw9 hh hh3 hn hn9 hc) (cwV 2 hts gX4_text_X4_writeLine rfl rfl rfl (by decide +kernel) ⟨Nat.le_of_ble_eq_true rfl, Nat.le_of_ble_eq_true rfl⟩) (w_preVL hK hP hL hS 0 (by omega) ⟨rfl, rfl⟩ rfl) rfl rfl hl.1 rfl (lv_room (Nat.le_of_ble_eq_true rfl)) dX4_text_15 ⟨Nat.le_of_ble_eq_true rfl, Nat.le_of_ble_eq_true rfl⟩) hS (fun H locs hP hS => ?_)
  refine lv_iload_n hx hb dX4_text_18 rfl (lv_at hl 3 rfl) ?_
  refine lv_aload_n hx hb dX4_text_19 rfl (lv_at hl 0 rfl) ?_
  refine w_get (C := RX4) (T := TX4) (N := 7) (v := .ref (ad 100)) (index := 39) hx hb hts inX4_text_X4 hown hK hP 0 4 ⟨rfl, rfl, by decide⟩ (by omega) rfl (List.mem_of_getElem? (i := 1) rfl) (fun _ h9 => h9) dX4_text_20 ?_
  refine w_calli (va_runV (As := []) (rest := [.int (nI (pl))]) ⟨hx, hb, hml, hown, hts⟩ (c_J4_length_8abf5 l nW D cA ad K V tO tT hi hNW (sbM I n) J X H.size (lineL r b w h)) (cwV 0 hts gX4_text_J4_length_8abf5 rfl rfl rfl (by decide +kernel) ⟨Nat.le_of_ble_eq_true rfl, Nat.le_of_ble_eq_true rfl⟩) (w_preVL hK hP hL hS 100 (by omega) ⟨rfl, rfl⟩ rfl) rfl rfl hl.1 rfl (lv_room (Nat.le_of_ble_eq_true rfl)) dX4_text_23 ⟨Nat.le_of_ble_eq_true rfl, Nat.le_of_ble_eq_true rfl⟩) hS (fun H locs hP hS => ?_)
  refine lv_icmp_ge (tgt := 40) hx hb dX4_text_26 (by decide) (fun c26 => ?_) (fun c26 => ?_)
  · have qc26 : ((lineL r b w h).length) ≤ pl := (wn_le (a := ((lineL r b w h).length)) (b := pl) rfl rfl (by omega) (by omega)).mp c26
    refine lv_iconst (v := 0) hx hb dX4_text_40 (by decide) ?_
    exact w_zret hx hb hr rfl hlocks hK hP hS ⟨by rw [show (lineL r b w h).getD pl 0 = 0 from by rw [List.getD_eq_getElem?_getD, List.getElem?_eq_none (by omega)]; rfl]; rfl, rfl, rfl, rfl⟩ dX4_text_41
  · have qc26 : ¬ ((lineL r b w h).length) ≤ pl := fun z => c26 ((wn_le (a := ((lineL r b w h).length)) (b := pl) rfl rfl (by omega) (by omega)).mpr z)
    refine lv_aload_n hx hb dX4_text_29 rfl (lv_at hl 0 rfl) ?_
    refine w_get (C := RX4) (T := TX4) (N := 7) (v := .ref (ad 100)) (index := 39) hx hb hts inX4_text_X4 hown hK hP 0 4 ⟨rfl, rfl, by decide⟩ (by omega) rfl (List.mem_of_getElem? (i := 1) rfl) (fun _ h9 => h9) dX4_text_30 ?_
    refine lv_iload_n hx hb dX4_text_33 rfl (lv_at hl 3 rfl) ?_
    refine w_calli (va_runV (As := [.int (nI (pl))]) (rest := []) ⟨hx, hb, hml, hown, hts⟩ (c_J4_charAt_5068e l nW D cA ad K V tO tT hi hNW (sbM I n) J X H.size (lineL r b w h) hc' pl (by omega) (by omega) h8) (cwV 1 hts gX4_text_J4_charAt_5068e rfl rfl rfl (by decide +kernel) ⟨Nat.le_of_ble_eq_true rfl, Nat.le_of_ble_eq_true rfl⟩) (w_preVL hK hP hL hS 100 (by omega) ⟨rfl, rfl⟩ rfl) rfl rfl hl.1 rfl (lv_room (Nat.le_of_ble_eq_true rfl)) dX4_text_34 ⟨Nat.le_of_ble_eq_true rfl, Nat.le_of_ble_eq_true rfl⟩) hS (fun H locs hP hS => ?_)
    refine lv_goto (tgt := 41) hx hb dX4_text_37 (by decide) ?_
    exact w_zret hx hb hr (nI_nc _ h8) hlocks hK hP hS ⟨rfl, rfl, rfl, rfl⟩ dX4_text_41

set_option maxHeartbeats 4000000 in
set_option maxRecDepth 100000 in
/-- X4_text throws -/
theorem x_X4_text_1 (l : Launch) (hst : l.stackTraces = false) (nW : Nat) (D : va_G) (cA : Nat → ClassId) (ad : Nat → Nat) (hi : inj nW ad) (hNW : 102 ≤ nW) (I : SI) (J : SJ) (X : SX) (sz : Nat) (r k z : Int32) (hp : inF r 0 3 = 0) : vx_Met l yX4_text wsX4_text ({ frames := 7, cells := 1, slots := 6, locals := 102 }) (va_Pc [.ref (ad 0), .int (r), .int (k), .int (z)] (wPreX nW D cA ad I J X sz)) (nInt nW ad sz) (xT nW D cA ad sz eI I J X) 1 6 (fr nW ad sz) := by
  refine vx_ofW (cc := cX4_text) (maxL := 4) (ret := (some .char)) (by decide) rfl ?_
  intro p e s m args below meth c s₁ B hml htab hv
  obtain ⟨rfl, ⟨rfl, hP, hK⟩, hX⟩ := hv
  have hx := B.exec
  have hb := B.bytes
  have hr := B.returns
  have hts := atoms_spec (ws := wsX4_text) B.pre
  have hown : s.vm.findClass RX4 = some m.cls := findClass_of_methodNamed B.named
  have hlocks := B.notSynchronized
  have hS : va_S (fr nW ad s.heap.size) s.heap s.heap [] := va_S.rf
  have hA : ∀ k, k < nW → fr nW ad s.heap.size (ad k) := fr_ad
  have hl := lv_entry ([.ref (ad 0), .int (r), .int (k), .int (z)]) (n := 4) (Nat.le_of_ble_eq_true rfl)
  rw [lg_entry_eq]
  generalize (lg_sl ([.ref (ad 0), .int (r), .int (k), .int (z)]) ++ List.replicate (4 - (lg_sl ([.ref (ad 0), .int (r), .int (k), .int (z)])).length) Slot.unset).toArray = ls at hl ⊢
  have hl : lv_has ls 4 [(0, .ref (ad 0)), (1, .int (r)), (2, .int (k)), (3, .int (z))] := hl
  suffices K : ∀ (H : Heap) (locs : List Loc), WP nW D cA ad I J X H → va_S (fr nW ad s.heap.size) s.heap H locs → W p l e (headSpec wsX4_text ({ frames := 7, cells := 1, slots := 6, locals := 102 })).room s m ([.ref (ad 0), .int (r), .int (k), .int (z)] : List Value).toArray below meth c H locs 0 0 (vx_MQ below (nInt nW ad s.heap.size) (xT nW D cA ad s.heap.size eI I J X) ([.ref (ad 0), .int (r), .int (k), .int (z)] : List Value).toArray s 1 6 (fr nW ad s.heap.size)) (F0 m 0 ls []) from K _ _ hP hS
  clear hP hS
  intro H locs hP hS
  refine lv_iload_n hx hb dX4_text_0 rfl (lv_at hl 1 rfl) ?_
  exact w_callxV (vx_runS (As := [.int (r)]) (rest := []) ⟨hx, hb, hml, hown, hts⟩ (x_X4_checkReader l hst nW D cA ad hi hNW I J X H.size r hp) (va_cwS 1 hts gX4_text_X4_checkReader rfl rfl rfl (by decide +kernel) ⟨Nat.le_of_ble_eq_true rfl, Nat.le_of_ble_eq_true rfl⟩) (w_preSX hK hP hX hS) rfl rfl hl.1 rfl (lv_room (Nat.le_of_ble_eq_true rfl)) dX4_text_1 ⟨Nat.le_of_ble_eq_true rfl, Nat.le_of_ble_eq_true rfl⟩) hK hS htab hlocks (Nat.le_of_ble_eq_true rfl) (Nat.le_of_ble_eq_true rfl)

set_option maxHeartbeats 4000000 in
set_option maxRecDepth 100000 in
/-- X4_text throws -/
theorem x_X4_text_2 (l : Launch) (hst : l.stackTraces = false) (nW : Nat) (D : va_G) (cA : Nat → ClassId) (ad : Nat → Nat) (hi : inj nW ad) (hNW : 102 ≤ nW) (I : SI) (J : SJ) (X : SX) (sz : Nat) (r : Nat) (k z : Int32) (hr4 : r < 4) (hp : inF k 0 4 = 0) : vx_Met l yX4_text wsX4_text ({ frames := 7, cells := 1, slots := 6, locals := 102 }) (va_Pc [.ref (ad 0), .int (nI (r)), .int (k), .int (z)] (wPreX nW D cA ad I J X sz)) (nInt nW ad sz) (xT nW D cA ad sz eI I J X) 1 6 (fr nW ad sz) := by
  refine vx_ofW (cc := cX4_text) (maxL := 4) (ret := (some .char)) (by decide) rfl ?_
  intro p e s m args below meth c s₁ B hml htab hv
  obtain ⟨rfl, ⟨rfl, hP, hK⟩, hX⟩ := hv
  have hx := B.exec
  have hb := B.bytes
  have hr := B.returns
  have hts := atoms_spec (ws := wsX4_text) B.pre
  have hown : s.vm.findClass RX4 = some m.cls := findClass_of_methodNamed B.named
  have hlocks := B.notSynchronized
  have hS : va_S (fr nW ad s.heap.size) s.heap s.heap [] := va_S.rf
  have hA : ∀ k, k < nW → fr nW ad s.heap.size (ad k) := fr_ad
  have hl := lv_entry ([.ref (ad 0), .int (nI (r)), .int (k), .int (z)]) (n := 4) (Nat.le_of_ble_eq_true rfl)
  rw [lg_entry_eq]
  generalize (lg_sl ([.ref (ad 0), .int (nI (r)), .int (k), .int (z)]) ++ List.replicate (4 - (lg_sl ([.ref (ad 0), .int (nI (r)), .int (k), .int (z)])).length) Slot.unset).toArray = ls at hl ⊢
  have hl : lv_has ls 4 [(0, .ref (ad 0)), (1, .int (nI (r))), (2, .int (k)), (3, .int (z))] := hl
  suffices K : ∀ (H : Heap) (locs : List Loc), WP nW D cA ad I J X H → va_S (fr nW ad s.heap.size) s.heap H locs → W p l e (headSpec wsX4_text ({ frames := 7, cells := 1, slots := 6, locals := 102 })).room s m ([.ref (ad 0), .int (nI (r)), .int (k), .int (z)] : List Value).toArray below meth c H locs 0 0 (vx_MQ below (nInt nW ad s.heap.size) (xT nW D cA ad s.heap.size eI I J X) ([.ref (ad 0), .int (nI (r)), .int (k), .int (z)] : List Value).toArray s 1 6 (fr nW ad s.heap.size)) (F0 m 0 ls []) from K _ _ hP hS
  clear hP hS
  intro H locs hP hS
  refine lv_iload_n hx hb dX4_text_0 rfl (lv_at hl 1 rfl) ?_
  refine w_callv (va_runS (As := [.int (nI (r))]) (rest := []) ⟨hx, hb, hml, hown, hts⟩ (c_X4_checkReader l nW D cA ad hi hNW I J X H.size r (by omega)) (va_cwS 1 hts gX4_text_X4_checkReader rfl rfl rfl (by decide +kernel) ⟨Nat.le_of_ble_eq_true rfl, Nat.le_of_ble_eq_true rfl⟩) (w_preS hK hP) rfl rfl hl.1 rfl (lv_room (Nat.le_of_ble_eq_true rfl)) dX4_text_1 ⟨Nat.le_of_ble_eq_true rfl, Nat.le_of_ble_eq_true rfl⟩) hS (fun H locs hP hS => ?_)
  refine lv_iload_n hx hb dX4_text_4 rfl (lv_at hl 2 rfl) ?_
  exact w_callxV (vx_runS (As := [.int (k)]) (rest := []) ⟨hx, hb, hml, hown, hts⟩ (x_X4_checkBook l hst nW D cA ad hi hNW I J X H.size k hp) (va_cwS 1 hts gX4_text_X4_checkBook rfl rfl rfl (by decide +kernel) ⟨Nat.le_of_ble_eq_true rfl, Nat.le_of_ble_eq_true rfl⟩) (w_preSX hK hP hX hS) rfl rfl hl.1 rfl (lv_room (Nat.le_of_ble_eq_true rfl)) dX4_text_5 ⟨Nat.le_of_ble_eq_true rfl, Nat.le_of_ble_eq_true rfl⟩) hK hS htab hlocks (Nat.le_of_ble_eq_true rfl) (Nat.le_of_ble_eq_true rfl)

set_option maxHeartbeats 4000000 in
set_option maxRecDepth 100000 in
/-- X4_text throws -/
theorem x_X4_text_3 (l : Launch) (hst : l.stackTraces = false) (nW : Nat) (D : va_G) (cA : Nat → ClassId) (ad : Nat → Nat) (hi : inj nW ad) (hNW : 102 ≤ nW) (I : SI) (J : SJ) (X : SX) (sz : Nat) (r k : Nat) (z : Int32) (hr4 : r < 4) (hk5 : k < 5) (hp : z < 0) : vx_Met l yX4_text wsX4_text ({ frames := 7, cells := 1, slots := 6, locals := 102 }) (va_Pc [.ref (ad 0), .int (nI (r)), .int (nI (k)), .int (z)] (wPreX nW D cA ad I J X sz)) (nInt nW ad sz) (xT nW D cA ad sz eI I J X) 1 6 (fr nW ad sz) := by
  refine vx_ofW (cc := cX4_text) (maxL := 4) (ret := (some .char)) (by decide) rfl ?_
  intro p e s m args below meth c s₁ B hml htab hv
  obtain ⟨rfl, ⟨rfl, hP, hK⟩, hX⟩ := hv
  have hx := B.exec
  have hb := B.bytes
  have hr := B.returns
  have hts := atoms_spec (ws := wsX4_text) B.pre
  have hown : s.vm.findClass RX4 = some m.cls := findClass_of_methodNamed B.named
  have hlocks := B.notSynchronized
  have hS : va_S (fr nW ad s.heap.size) s.heap s.heap [] := va_S.rf
  have hA : ∀ k, k < nW → fr nW ad s.heap.size (ad k) := fr_ad
  have hl := lv_entry ([.ref (ad 0), .int (nI (r)), .int (nI (k)), .int (z)]) (n := 4) (Nat.le_of_ble_eq_true rfl)
  rw [lg_entry_eq]
  generalize (lg_sl ([.ref (ad 0), .int (nI (r)), .int (nI (k)), .int (z)]) ++ List.replicate (4 - (lg_sl ([.ref (ad 0), .int (nI (r)), .int (nI (k)), .int (z)])).length) Slot.unset).toArray = ls at hl ⊢
  have hl : lv_has ls 4 [(0, .ref (ad 0)), (1, .int (nI (r))), (2, .int (nI (k))), (3, .int (z))] := hl
  suffices K : ∀ (H : Heap) (locs : List Loc), WP nW D cA ad I J X H → va_S (fr nW ad s.heap.size) s.heap H locs → W p l e (headSpec wsX4_text ({ frames := 7, cells := 1, slots := 6, locals := 102 })).room s m ([.ref (ad 0), .int (nI (r)), .int (nI (k)), .int (z)] : List Value).toArray below meth c H locs 0 0 (vx_MQ below (nInt nW ad s.heap.size) (xT nW D cA ad s.heap.size eI I J X) ([.ref (ad 0), .int (nI (r)), .int (nI (k)), .int (z)] : List Value).toArray s 1 6 (fr nW ad s.heap.size)) (F0 m 0 ls []) from K _ _ hP hS
  clear hP hS
  intro H locs hP hS
  refine lv_iload_n hx hb dX4_text_0 rfl (lv_at hl 1 rfl) ?_
  refine w_callv (va_runS (As := [.int (nI (r))]) (rest := []) ⟨hx, hb, hml, hown, hts⟩ (c_X4_checkReader l nW D cA ad hi hNW I J X H.size r (by omega)) (va_cwS 1 hts gX4_text_X4_checkReader rfl rfl rfl (by decide +kernel) ⟨Nat.le_of_ble_eq_true rfl, Nat.le_of_ble_eq_true rfl⟩) (w_preS hK hP) rfl rfl hl.1 rfl (lv_room (Nat.le_of_ble_eq_true rfl)) dX4_text_1 ⟨Nat.le_of_ble_eq_true rfl, Nat.le_of_ble_eq_true rfl⟩) hS (fun H locs hP hS => ?_)
  refine lv_iload_n hx hb dX4_text_4 rfl (lv_at hl 2 rfl) ?_
  refine w_callv (va_runS (As := [.int (nI (k))]) (rest := []) ⟨hx, hb, hml, hown, hts⟩ (c_X4_checkBook l nW D cA ad hi hNW I J X H.size k (by omega)) (va_cwS 1 hts gX4_text_X4_checkBook rfl rfl rfl (by decide +kernel) ⟨Nat.le_of_ble_eq_true rfl, Nat.le_of_ble_eq_true rfl⟩) (w_preS hK hP) rfl rfl hl.1 rfl (lv_room (Nat.le_of_ble_eq_true rfl)) dX4_text_5 ⟨Nat.le_of_ble_eq_true rfl, Nat.le_of_ble_eq_true rfl⟩) hS (fun H locs hP hS => ?_)
  refine lv_iload_n hx hb dX4_text_8 rfl (lv_at hl 3 rfl) ?_
  exact w_callxV (vx_runS (As := [.int (z)]) (rest := []) ⟨hx, hb, hml, hown, hts⟩ (x_X4_checkPlace l hst nW D cA ad hi hNW I J X H.size z hp) (va_cwS 1 hts gX4_text_X4_checkPlace rfl rfl rfl (by decide +kernel) ⟨Nat.le_of_ble_eq_true rfl, Nat.le_of_ble_eq_true rfl⟩) (w_preSX hK hP hX hS) rfl rfl hl.1 rfl (lv_room (Nat.le_of_ble_eq_true rfl)) dX4_text_9 ⟨Nat.le_of_ble_eq_true rfl, Nat.le_of_ble_eq_true rfl⟩) hK hS htab hlocks (Nat.le_of_ble_eq_true rfl) (Nat.le_of_ble_eq_true rfl)
