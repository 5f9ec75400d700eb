/-! the law: an event -/
set_option maxHeartbeats 1000000 in
set_option maxRecDepth 100000 in
theorem law_t1 {p : Program} {e : Env} {s : State} {m : MethodId} {below : List Frame} {meth : Method} {c : Code} (l : Launch) (hst : l.stackTraces = false) {b L : Nat} {xs : Nat → Int32} (hL : L ≤ 260) (C0 : lw_At p s m meth c b L xs) {D : va_G} {cA : Nat → ClassId} {ad K V : Nat → Nat} {tO tT : Nat} (hi : inj 102 ad) (had : ∀ k, k < 102 → s.heap.size ≤ ad k) (hK : WK D cA s) (hXA : XA ad K V tO tT s.heap.size s) {X : SX} {j t : Nat} (hj : j < 26) {I : SI} {J : SJ} (hv : Inv3 j I J X) (y : Int32) {cells slots : Nat} (hce : cells ≤ 500) (hsl : slots ≤ 20000) (kx : ∀ (j9 : Nat) (I : SI) (J : SJ) (cl sl : Nat) (H : Heap) (locs : List Loc) (ls : Array Slot), j9 ≤ j → Inv3 j9 I J X → cl ≤ cells + 0 → sl ≤ slots + 0 → WP 102 D cA ad I J X H → va_S (fr 102 ad s.heap.size) s.heap H locs → lv_has ls 10 [(3, .int (nI t)), (2, .int (I 0 6)), (1, .ref (ad 0)), (0, .ref b)] → W p l e room_1 s m #[Value.ref b] below meth c H locs cl sl (lw_Z below #[Value.ref b] s) (F0 m 166 ls [])) {H : Heap} {locs : List Loc} {ls : Array Slot} (hP : WP 102 D cA ad I J X H) (hS : va_S (fr 102 ad s.heap.size) s.heap H locs) (hl : lv_has ls 10 [(5, .int y), (3, .int (nI t)), (2, .int (I 0 6)), (1, .ref (ad 0)), (0, .ref b)]) : W p l e room_1 s m #[Value.ref b] below meth c H locs cells slots (lw_Z below #[Value.ref b] s) (F0 m 154 ls []) := by
  obtain ⟨hx, hb, hr, hml, hown, hts, hX, hbl, hlocks, hgv⟩ := id C0
  have htsL : ∀ w ∈ wsL_law, w.before #[Value.ref b] s = true := fun w hw => lw_hts2 hts w (wsL_law_in w hw)
  have hbA : ¬ fr 102 ad s.heap.size b := st_hA had b hbl
  refine lv_aload_n hx hb dL_law_154 rfl (lv_at hl 3 rfl) ?_
  refine lv_iload hx hb dL_law_155 (lv_at hl 0 rfl) ?_
  refine lv_iload_n hx hb dL_law_157 rfl (lv_at hl 2 rfl) ?_
  refine w_calli (va_runS (As := [.ref (ad 0), .int y, .int (I 0 6)]) (rest := []) ⟨hx, hb, hml, hown, htsL⟩ (c_L_asks l D cA ad hi hv (by omega) y H.size) (va_cwS 3 htsL gL_law_L_asks rfl rfl rfl (by decide +kernel) ⟨(Nat.le_of_ble_eq_true rfl), (Nat.le_of_ble_eq_true rfl)⟩) (w_preS hK hP) rfl rfl hl.1 rfl (lv_room (Nat.le_of_ble_eq_true rfl)) dL_law_158 ⟨by show _ ≤ 600104; omega, by show _ ≤ 7301314; omega⟩) hS (fun H locs hP hS => ?_)
  refine lv_if_ne (tgt := 166) hx hb dL_law_161 (by decide) (fun _ => ?_) (fun z => absurd z (by decide))
  exact kx j I J _ _ H locs ls (Nat.le_refl _) hv (by omega) (by omega) hP hS (lv_sub hl [1, 2, 3, 4] rfl)

set_option maxHeartbeats 1000000 in
set_option maxRecDepth 100000 in
theorem law_t2 {p : Program} {e : Env} {s : State} {m : MethodId} {below : List Frame} {meth : Method} {c : Code} (l : Launch) (hst : l.stackTraces = false) {b L : Nat} {xs : Nat → Int32} (hL : L ≤ 260) (C0 : lw_At p s m meth c b L xs) {D : va_G} {cA : Nat → ClassId} {ad K V : Nat → Nat} {tO tT : Nat} (hi : inj 102 ad) (had : ∀ k, k < 102 → s.heap.size ≤ ad k) (hK : WK D cA s) (hXA : XA ad K V tO tT s.heap.size s) {X : SX} {j t : Nat} (hj : j < 26) {I : SI} {J : SJ} (hv : Inv3 j I J X) (y v : Int32) (hv1 : ¬ v = -1) {q : Nat} {f : Nat → Int32} (hf : v < -1 → f = tA I J (lowN y 4)) (hq : ∀ k, k < 102 → ad k ≠ q) {cells slots : Nat} (hce : cells ≤ 400) (hsl : slots ≤ 10000) (kx : ∀ (j9 : Nat) (I : SI) (J : SJ) (cl sl : Nat) (H : Heap) (locs : List Loc) (ls : Array Slot), j9 ≤ j → Inv3 j9 I J X → cl ≤ cells + 1 → sl ≤ slots + 64 → WP 102 D cA ad I J X H → va_S (fr 102 ad s.heap.size) s.heap H locs → lv_has ls 10 [(3, .int (nI t)), (2, .int (I 0 6)), (1, .ref (ad 0)), (0, .ref b)] → W p l e room_1 s m #[Value.ref b] below meth c H locs cl sl (lw_Z below #[Value.ref b] s) (F0 m 166 ls [])) {H : Heap} {locs : List Loc} {ls : Array Slot} (hP : WP 102 D cA ad I J X H) (hT : AT cA q f H) (hS : va_S (fr 102 ad s.heap.size) s.heap H locs) (hl : lv_has ls 10 [(8, .int v), (7, .ref q), (5, .int y), (3, .int (nI t)), (2, .int (I 0 6)), (1, .ref (ad 0)), (0, .ref b)]) : W p l e room_1 s m #[Value.ref b] below meth c H locs cells slots (lw_Z below #[Value.ref b] s) (F0 m 128 ls []) := by
  obtain ⟨hx, hb, hr, hml, hown, hts, hX, hbl, hlocks, hgv⟩ := id C0
  have htsL : ∀ w ∈ wsL_law, w.before #[Value.ref b] s = true := fun w hw => lw_hts2 hts w (wsL_law_in w hw)
  have hbA : ¬ fr 102 ad s.heap.size b := st_hA had b hbl
  refine lv_iload hx hb dL_law_128 (lv_at hl 0 rfl) ?_
  refine lv_iconst (v := (-1)) hx hb dL_law_130 (by decide) ?_
  refine lv_icmp_eq (tgt := 164) hx hb dL_law_131 (by decide) (fun z => absurd z hv1) (fun _ => ?_)
  refine lv_iload hx hb dL_law_134 (lv_at hl 0 rfl) ?_
  refine lv_iconst (v := (-1)) hx hb dL_law_136 (by decide) ?_
  refine lv_icmp_ge (tgt := 154) hx hb dL_law_137 (by decide) (fun _ => ?_) (fun c9 => ?_)
  · exact law_t1 l hst hL C0 hi had hK hXA hj hv y (by omega) (by omega) (fun j9 I J cl sl H locs ls h1 h2 h3 h4 => kx j9 I J cl sl H locs ls h1 h2 (by omega) (by omega)) hP hS (lv_sub hl [2, 3, 4, 5, 6] rfl)
  · have hf2 : f = tA I J (lowN y 4) := hf (by rw [Int32.lt_iff_toInt_lt]; rw [Int32.le_iff_toInt_le] at c9; omega)
    refine lv_aload hx hb dL_law_140 (lv_at hl 1 rfl) ?_
    refine lv_aload_n hx hb dL_law_142 rfl (lv_at hl 5 rfl) ?_
    refine lv_iload hx hb dL_law_143 (lv_at hl 2 rfl) ?_
    refine t_callr (va_runS (As := [.ref (ad 0), .int y]) (rest := [.ref q]) ⟨hx, hb, hml, hown, htsL⟩ (c_L_tell l D cA ad K V tO tT hi hv y H.size) (va_cwS 2 htsL gL_law_L_tell rfl rfl rfl (by decide +kernel) ⟨(Nat.le_of_ble_eq_true rfl), (Nat.le_of_ble_eq_true rfl)⟩) (w_preSA hK hP hXA hS) rfl rfl hl.1 rfl (lv_room (Nat.le_of_ble_eq_true rfl)) dL_law_145 ⟨by show _ ≤ 600104; omega, by show _ ≤ 7301314; omega⟩) hS (fun q2 I' H locs hs hP hT2 hq2 hkp hS => ?_)
    have hT1 := hkp q f hT hq
    rw [← hf2] at hT2
    refine w_calli (va_runS (As := [.ref q, .ref q2]) (rest := []) ⟨hx, hb, hml, hown, htsL⟩ (c_L_same l D cA ad hi I' J X q q2 f H.size) (va_cwS 2 htsL gL_law_L_same rfl rfl rfl (by decide +kernel) ⟨(Nat.le_of_ble_eq_true rfl), (Nat.le_of_ble_eq_true rfl)⟩) (w_preST hK hP hT1 hT2) rfl rfl hl.1 rfl (lv_room (Nat.le_of_ble_eq_true rfl)) dL_law_148 ⟨by show _ ≤ 600104; omega, by show _ ≤ 7301314; omega⟩) hS (fun H locs hP hS => ?_)
    refine lv_if_eq (tgt := 164) hx hb dL_law_151 (by decide) (fun z => absurd z (by decide)) (fun _ => ?_)
    have hv9 := hv.line hs.1 hs.2
    have e6 : I' 0 6 = I 0 6 := by rw [hs.1 0 (by decide) (by decide)]
    exact law_t1 l hst hL C0 hi had hK hXA hj hv9 y (by omega) (by omega) (fun j9 I J cl sl H locs ls h1 h2 h3 h4 => kx j9 I J cl sl H locs ls h1 h2 (by omega) (by omega)) hP hS (lv_cong (l := [(5, .int y), (3, .int (nI t)), (2, .int (I 0 6)), (1, .ref (ad 0)), (0, .ref b)]) (l' := [(5, .int y), (3, .int (nI t)), (2, .int (I' 0 6)), (1, .ref (ad 0)), (0, .ref b)]) (lv_sub hl [2, 3, 4, 5, 6] rfl) (by rw [e6]))

set_option maxHeartbeats 1000000 in
set_option maxRecDepth 100000 in
theorem law_t3 {p : Program} {e : Env} {s : State} {m : MethodId} {below : List Frame} {meth : Method} {c : Code} (l : Launch) (hst : l.stackTraces = false) {b L : Nat} {xs : Nat → Int32} (hL : L ≤ 260) (C0 : lw_At p s m meth c b L xs) {D : va_G} {cA : Nat → ClassId} {ad K V : Nat → Nat} {tO tT : Nat} (hi : inj 102 ad) (had : ∀ k, k < 102 → s.heap.size ≤ ad k) (hK : WK D cA s) (hXA : XA ad K V tO tT s.heap.size s) {X : SX} {j t : Nat} (hj : j < 25) (ht : t < 24) {I : SI} {J : SJ} (hv : Inv3 j I J X) {cells slots : Nat} (hce : cells ≤ 300) (hsl : slots ≤ 6000) (kx : ∀ (j9 : Nat) (I : SI) (J : SJ) (cl sl : Nat) (H : Heap) (locs : List Loc) (ls : Array Slot), j9 ≤ j + 1 → Inv3 j9 I J X → cl ≤ cells + 3 → sl ≤ slots + 134 → WP 102 D cA ad I J X H → va_S (fr 102 ad s.heap.size) s.heap H locs → lv_has ls 10 [(3, .int (nI t)), (2, .int (I 0 6)), (1, .ref (ad 0)), (0, .ref b)] → W p l e room_1 s m #[Value.ref b] below meth c H locs cl sl (lw_Z below #[Value.ref b] s) (F0 m 166 ls [])) {H : Heap} {locs : List Loc} {ls : Array Slot} (hP : WP 102 D cA ad I J X H) (hS : va_S (fr 102 ad s.heap.size) s.heap H locs) (hl : lv_has ls 10 [(3, .int (nI t)), (2, .int (I 0 6)), (1, .ref (ad 0)), (0, .ref b)]) : W p l e room_1 s m #[Value.ref b] below meth c H locs cells slots (lw_Z below #[Value.ref b] s) (F0 m 20 ls []) := by
  obtain ⟨hx, hb, hr, hml, hown, hts, hX, hbl, hlocks, hgv⟩ := id C0
  have htsL : ∀ w ∈ wsL_law, w.before #[Value.ref b] s = true := fun w hw => lw_hts2 hts w (wsL_law_in w hw)
  have hbA : ¬ fr 102 ad s.heap.size b := st_hA had b hbl
  refine lv_aload_n hx hb dL_law_20 rfl (lv_at hl 3 rfl) ?_
  refine lv_iconst (v := 2) hx hb dL_law_21 (by decide) ?_
  refine lv_iload_n hx hb dL_law_22 rfl (lv_at hl 0 rfl) ?_
  refine w_imulN (a := 2) (b := t) hx hb rfl rfl dL_law_23 ?_
  refine w_calli (va_runS (As := [.ref b, .int (nI (2 * t))]) (rest := []) ⟨hx, hb, hml, hown, htsL⟩ (c_L_cell l D cA ad I J X b L xs hL (2 * t) (by omega) H.size (Nat.lt_of_lt_of_le hbl hS.1) (fun z => hbA (fr_mono hS.1 b z))) (va_cwS 2 htsL gL_law_L_cell rfl rfl rfl (by decide +kernel) ⟨(Nat.le_of_ble_eq_true rfl), (Nat.le_of_ble_eq_true rfl)⟩) (w_preSC hK hP hX hbl hbA hS) rfl rfl hl.1 rfl (lv_room (Nat.le_of_ble_eq_true rfl)) dL_law_24 ⟨by show _ ≤ 600104; omega, by show _ ≤ 7301314; omega⟩) hS (fun H locs hP hS => ?_)
  refine lv_istore (lv' := [(4, .int (cellV L xs (2 * t))), (3, .int (nI t)), (2, .int (I 0 6)), (1, .ref (ad 0)), (0, .ref b)]) hx hb dL_law_27 hl (by decide) rfl (fun ls hl => ?_)
  refine lv_aload_n hx hb dL_law_29 rfl (lv_at hl 4 rfl) ?_
  refine lv_iconst (v := 2) hx hb dL_law_30 (by decide) ?_
  refine lv_iload_n hx hb dL_law_31 rfl (lv_at hl 1 rfl) ?_
  refine w_imulN (a := 2) (b := t) hx hb rfl rfl dL_law_32 ?_
  refine lv_iconst (v := 1) hx hb dL_law_33 (by decide) ?_
  refine w_iaddN (a := 2 * t) (b := 1) hx hb rfl rfl dL_law_34 ?_
  refine w_calli (va_runS (As := [.ref b, .int (nI (2 * t + 1))]) (rest := []) ⟨hx, hb, hml, hown, htsL⟩ (c_L_cell l D cA ad I J X b L xs hL (2 * t + 1) (by omega) H.size (Nat.lt_of_lt_of_le hbl hS.1) (fun z => hbA (fr_mono hS.1 b z))) (va_cwS 2 htsL gL_law_L_cell rfl rfl rfl (by decide +kernel) ⟨(Nat.le_of_ble_eq_true rfl), (Nat.le_of_ble_eq_true rfl)⟩) (w_preSC hK hP hX hbl hbA hS) rfl rfl hl.1 rfl (lv_room (Nat.le_of_ble_eq_true rfl)) dL_law_35 ⟨by show _ ≤ 600104; omega, by show _ ≤ 7301314; omega⟩) hS (fun H locs hP hS => ?_)
  generalize cellV L xs (2 * t + 1) = y
  generalize cellV L xs (2 * t) = x at hl
  refine lv_istore (lv' := [(5, .int y), (4, .int x), (3, .int (nI t)), (2, .int (I 0 6)), (1, .ref (ad 0)), (0, .ref b)]) hx hb dL_law_38 hl (by decide) rfl (fun ls hl => ?_)
  refine lv_iload hx hb dL_law_40 (lv_at hl 1 rfl) ?_
  refine lv_iconst (v := 3) hx hb dL_law_42 (by decide) ?_
  refine lv_ishr hx hb dL_law_43 ?_
  refine lv_bipush (v := 8) hx hb dL_law_44 (by decide) ?_
  refine w_calli (va_runS (As := [.int (x >>> ((3 : Int32) &&& 31)), .int 8]) (rest := []) ⟨hx, hb, hml, hown, htsL⟩ (c_L_low l 102 D cA ad hi (Nat.le_refl _) I J X H.size (x >>> ((3 : Int32) &&& 31)) 8 ⟨by decide, by decide⟩) (va_cwS 2 htsL gL_law_L_low rfl rfl rfl (by decide +kernel) ⟨(Nat.le_of_ble_eq_true rfl), (Nat.le_of_ble_eq_true rfl)⟩) (w_preS hK hP) rfl rfl hl.1 rfl (lv_room (Nat.le_of_ble_eq_true rfl)) dL_law_46 ⟨by show _ ≤ 600104; omega, by show _ ≤ 7301314; omega⟩) hS (fun H locs hP hS => ?_)
  obtain ⟨kd, hk8, ekd⟩ : ∃ kd, kd < 8 ∧ lowN (x >>> ((3 : Int32) &&& 31)) 8 = kd := ⟨_, lowN_lt (by decide), rfl⟩
  rw [ekd]
  refine lv_istore (lv' := [(6, .int (nI kd)), (5, .int y), (4, .int x), (3, .int (nI t)), (2, .int (I 0 6)), (1, .ref (ad 0)), (0, .ref b)]) hx hb dL_law_49 hl (by decide) rfl (fun ls hl => ?_)
  refine lv_aload_n hx hb dL_law_51 rfl (lv_at hl 5 rfl) ?_
  refine lv_iload hx hb dL_law_52 (lv_at hl 1 rfl) ?_
  refine t_callr (va_runS (As := [.ref (ad 0), .int y]) (rest := []) ⟨hx, hb, hml, hown, htsL⟩ (c_L_tell l D cA ad K V tO tT hi hv y H.size) (va_cwS 2 htsL gL_law_L_tell rfl rfl rfl (by decide +kernel) ⟨(Nat.le_of_ble_eq_true rfl), (Nat.le_of_ble_eq_true rfl)⟩) (w_preSA hK hP hXA hS) rfl rfl hl.1 rfl (lv_room (Nat.le_of_ble_eq_true rfl)) dL_law_54 ⟨by show _ ≤ 600104; omega, by show _ ≤ 7301314; omega⟩) hS (fun q I' H locs hs hP hT hq _ hS => ?_)
  have hv9 := hv.line hs.1 hs.2
  have e6 : I' 0 6 = I 0 6 := by rw [hs.1 0 (by decide) (by decide)]
  rw [← tA_cg (I := I) (I' := I') hs.1] at hT
  refine lv_astore (lv' := [(7, .ref q), (6, .int (nI kd)), (5, .int y), (4, .int x), (3, .int (nI t)), (2, .int (I 0 6)), (1, .ref (ad 0)), (0, .ref b)]) hx hb dL_law_57 hl (by decide) rfl (fun ls hl => ?_)
  refine lv_iconst (v := 0) hx hb dL_law_59 (by decide) ?_
  refine lv_istore (lv' := [(8, .int 0), (7, .ref q), (6, .int (nI kd)), (5, .int y), (4, .int x), (3, .int (nI t)), (2, .int (I 0 6)), (1, .ref (ad 0)), (0, .ref b)]) hx hb dL_law_60 hl (by decide) rfl (fun ls hl => ?_)
  refine lv_iload hx hb dL_law_62 (lv_at hl 2 rfl) ?_
  refine lv_bipush (v := 7) hx hb dL_law_64 (by decide) ?_
  refine lv_icmp_ne (tgt := 118) hx hb dL_law_66 (by decide) (fun _ => ?_) (fun _ => ?_)
  · obtain ⟨v, I1, J1, j9, h1, h2, h3, h4, h5, hM⟩ := pk_act l hst D cA ad K V tO tT hi hj hv9 y kd hk8
    refine lv_aload_n hx hb dL_law_118 rfl (lv_at hl 7 rfl) ?_
    refine lv_iload hx hb dL_law_119 (lv_at hl 3 rfl) ?_
    refine lv_iload hx hb dL_law_121 (lv_at hl 2 rfl) ?_
    refine t_calli (va_runS (As := [.ref (ad 0), .int y, .int (nI kd)]) (rest := []) ⟨hx, hb, hml, hown, htsL⟩ (hM H.size) (va_cwS 3 htsL gL_law_L_act rfl rfl rfl (by decide +kernel) ⟨(Nat.le_of_ble_eq_true rfl), (Nat.le_of_ble_eq_true rfl)⟩) (w_preSA hK hP hXA hS) rfl rfl hl.1 rfl (lv_room (Nat.le_of_ble_eq_true rfl)) dL_law_123 ⟨by show _ ≤ 600104; omega, by show _ ≤ 7301314; omega⟩) hT hq hS (fun H locs hP hT hS => ?_)
    refine lv_istore (lv' := [(8, .int v), (7, .ref q), (6, .int (nI kd)), (5, .int y), (4, .int x), (3, .int (nI t)), (2, .int (I 0 6)), (1, .ref (ad 0)), (0, .ref b)]) hx hb dL_law_126 hl (by decide) rfl (fun ls hl => ?_)
    exact law_t2 l hst hL C0 hi had hK hXA (by omega) h2 y v h4 (fun z => by rw [(h5 z).1, (h5 z).2]) hq (by omega) (by omega) (fun j9 I J cl sl H locs ls g1 g2 g3 g4 => kx j9 I J cl sl H locs ls (by omega) g2 (by omega) (by omega)) hP hT hS (lv_cong (l := [(8, .int v), (7, .ref q), (5, .int y), (3, .int (nI t)), (2, .int (I 0 6)), (1, .ref (ad 0)), (0, .ref b)]) (l' := [(8, .int v), (7, .ref q), (5, .int y), (3, .int (nI t)), (2, .int (I1 0 6)), (1, .ref (ad 0)), (0, .ref b)]) (lv_sub hl [0, 1, 3, 5, 6, 7, 8] rfl) (by rw [h3, e6]))
  · refine lv_sipush (v := 400) hx hb dL_law_69 (by decide) ?_
    refine lv_iload hx hb dL_law_72 (lv_at hl 3 rfl) ?_
    refine lv_iconst (v := 2) hx hb dL_law_74 (by decide) ?_
    refine lv_ishr hx hb dL_law_75 ?_
    refine lv_sipush (v := 20000) hx hb dL_law_76 (by decide) ?_
    refine t_calli (va_runS (As := [.int (y >>> ((2 : Int32) &&& 31)), .int 20000]) (rest := [.int 400]) ⟨hx, hb, hml, hown, htsL⟩ (c_L_low l 102 D cA ad hi (Nat.le_refl _) I' J X H.size (y >>> ((2 : Int32) &&& 31)) 20000 ⟨by decide, by decide⟩) (va_cwS 2 htsL gL_law_L_low rfl rfl rfl (by decide +kernel) ⟨(Nat.le_of_ble_eq_true rfl), (Nat.le_of_ble_eq_true rfl)⟩) (w_preS hK hP) rfl rfl hl.1 rfl (lv_room (Nat.le_of_ble_eq_true rfl)) dL_law_79 ⟨by show _ ≤ 600104; omega, by show _ ≤ 7301314; omega⟩) hT hq hS (fun H locs hP hT hS => ?_)
    refine lv_iadd hx hb dL_law_82 ?_
    generalize (400 + (nI (lowN (y >>> ((2 : Int32) &&& 31)) 20000))) = p1
    refine lv_istore (lv' := [(9, .int p1), (8, .int 0), (7, .ref q), (6, .int (nI kd)), (5, .int y), (4, .int x), (3, .int (nI t)), (2, .int (I 0 6)), (1, .ref (ad 0)), (0, .ref b)]) hx hb dL_law_83 hl (by decide) rfl (fun ls hl => ?_)
    refine lv_aload_n hx hb dL_law_85 rfl (lv_at hl 8 rfl) ?_
    refine lv_bipush (v := 45) hx hb dL_law_86 (by decide) ?_
    refine lv_iload hx hb dL_law_88 (lv_at hl 4 rfl) ?_
    refine lv_bipush (v := 50) hx hb dL_law_90 (by decide) ?_
    refine t_calli (va_runS (As := [.int y, .int 50]) (rest := [.int 45, .ref (ad 0)]) ⟨hx, hb, hml, hown, htsL⟩ (c_L_low l 102 D cA ad hi (Nat.le_refl _) I' J X H.size y 50 ⟨by decide, by decide⟩) (va_cwS 2 htsL gL_law_L_low rfl rfl rfl (by decide +kernel) ⟨(Nat.le_of_ble_eq_true rfl), (Nat.le_of_ble_eq_true rfl)⟩) (w_preS hK hP) rfl rfl hl.1 rfl (lv_room (Nat.le_of_ble_eq_true rfl)) dL_law_92 ⟨by show _ ≤ 600104; omega, by show _ ≤ 7301314; omega⟩) hT hq hS (fun H locs hP hT hS => ?_)
    refine lv_iadd hx hb dL_law_95 ?_
    generalize (45 + (nI (lowN y 50))) = p0
    refine lv_iload hx hb dL_law_96 (lv_at hl 0 rfl) ?_
    obtain ⟨v, I1, J1, j9, h1, h2, h3, h4, h5, h6, hM⟩ := dk_walk l hst D cA ad K V tO tT hi hj hv9 p0 p1
    refine t_calli (vx_runSW (As := [.ref (ad 0), .int p0, .int p1]) (rest := []) ⟨hx, hb, hml, hown, htsL⟩ (hM H.size) (vx_cwSW 3 htsL gL_law_L_walks rfl rfl rfl (by decide +kernel) ⟨(Nat.le_of_ble_eq_true rfl), (Nat.le_of_ble_eq_true rfl)⟩) (w_preSA hK hP hXA hS) rfl rfl hl.1 rfl (lv_room (Nat.le_of_ble_eq_true rfl)) dL_law_98 ⟨by show _ ≤ 600104; omega, by show _ ≤ 7301314; omega⟩) hT hq hS (fun H locs hP hT hS => ?_)
    refine lv_istore (lv' := [(8, .int v), (9, .int p1), (7, .ref q), (6, .int (nI kd)), (5, .int y), (4, .int x), (3, .int (nI t)), (2, .int (I 0 6)), (1, .ref (ad 0)), (0, .ref b)]) hx hb dL_law_101 hl (by decide) rfl (fun ls hl => ?_)
    refine lv_iload hx hb dL_law_103 (lv_at hl 0 rfl) ?_
    rcases h6 with z6 | z6
    · refine lv_if_ne (tgt := 113) hx hb dL_law_105 (by decide) (fun z => absurd z6 z) (fun _ => ?_)
      rw [if_pos z6] at h3
      refine lv_iload hx hb dL_law_108 (lv_at hl 1 rfl) ?_
      refine lv_goto (tgt := 114) hx hb dL_law_110 (by decide) ?_
      refine lv_istore_n (lv' := [(2, .int p1), (8, .int v), (9, .int p1), (7, .ref q), (6, .int (nI kd)), (5, .int y), (4, .int x), (3, .int (nI t)), (1, .ref (ad 0)), (0, .ref b)]) hx hb dL_law_114 rfl hl (by decide) rfl (fun ls hl => ?_)
      refine lv_goto (tgt := 128) hx hb dL_law_115 (by decide) ?_
      exact law_t2 l hst hL C0 hi had hK hXA (by omega) h2 y v h4 (fun z => by rw [(h5 z).1, (h5 z).2]) hq (by omega) (by omega) (fun j9 I J cl sl H locs ls g1 g2 g3 g4 => kx j9 I J cl sl H locs ls (by omega) g2 (by omega) (by omega)) hP hT hS (lv_cong (l := [(8, .int v), (7, .ref q), (5, .int y), (3, .int (nI t)), (2, .int p1), (1, .ref (ad 0)), (0, .ref b)]) (l' := [(8, .int v), (7, .ref q), (5, .int y), (3, .int (nI t)), (2, .int (I1 0 6)), (1, .ref (ad 0)), (0, .ref b)]) (lv_sub hl [1, 3, 5, 7, 0, 8, 9] rfl) (by rw [h3]))
    · refine lv_if_ne (tgt := 113) hx hb dL_law_105 (by decide) (fun _ => ?_) (fun z => absurd (z6.symm.trans z) (by decide))
      rw [if_neg (by rw [z6]; decide)] at h3
      refine lv_iload_n hx hb dL_law_113 rfl (lv_at hl 7 rfl) ?_
      refine lv_istore_n (lv' := [(2, .int (I 0 6)), (8, .int v), (9, .int p1), (7, .ref q), (6, .int (nI kd)), (5, .int y), (4, .int x), (3, .int (nI t)), (1, .ref (ad 0)), (0, .ref b)]) hx hb dL_law_114 rfl hl (by decide) rfl (fun ls hl => ?_)
      refine lv_goto (tgt := 128) hx hb dL_law_115 (by decide) ?_
      exact law_t2 l hst hL C0 hi had hK hXA (by omega) h2 y v h4 (fun z => by rw [(h5 z).1, (h5 z).2]) hq (by omega) (by omega) (fun j9 I J cl sl H locs ls g1 g2 g3 g4 => kx j9 I J cl sl H locs ls (by omega) g2 (by omega) (by omega)) hP hT hS (lv_cong (l := [(8, .int v), (7, .ref q), (5, .int y), (3, .int (nI t)), (2, .int (I 0 6)), (1, .ref (ad 0)), (0, .ref b)]) (l' := [(8, .int v), (7, .ref q), (5, .int y), (3, .int (nI t)), (2, .int (I1 0 6)), (1, .ref (ad 0)), (0, .ref b)]) (lv_sub hl [1, 3, 5, 7, 0, 8, 9] rfl) (by rw [h3, e6]))
