/-! the law: its end, its loop, its start -/
set_option maxHeartbeats 1000000 in
set_option maxRecDepth 100000 in
theorem law_end {p : Program} {e : Env} {s : State} {m : MethodId} {below : List Frame} {meth : Method} {c : Code} (l : Launch) (hst : l.stackTraces = false) {b L : Nat} {xs : Nat → Int32} (hL : L ≤ 260) (C0 : lw_At p s m meth c b L xs) {D : va_G} {cA : Nat → ClassId} {ad K V : Nat → Nat} {tO tT : Nat} (hi : inj 102 ad) (had : ∀ k, k < 102 → s.heap.size ≤ ad k) (hK : WK D cA s) (hXA : XA ad K V tO tT s.heap.size s) {X : SX} {t : Nat} {I : SI} {J : SJ} {cells slots : Nat} (hce : cells ≤ 500) (hsl : slots ≤ 20000) {H : Heap} {locs : List Loc} {ls : Array Slot} (hP : WP 102 D cA ad I J X H) (hS : va_S (fr 102 ad s.heap.size) s.heap H locs) (hl : lv_has ls 10 [(3, .int (nI t)), (2, .int (I 0 6)), (1, .ref (ad 0)), (0, .ref b)]) : W p l e room_1 s m #[Value.ref b] below meth c H locs cells slots (lw_Z below #[Value.ref b] s) (F0 m 172 ls []) := by
  obtain ⟨hx, hb, hr, hml, hown, hts, hX, hbl, hlocks, hgv⟩ := id C0
  have htsL : ∀ w ∈ wsL_law, w.before #[Value.ref b] s = true := fun w hw => lw_hts2 hts w (wsL_law_in w hw)
  have hbA : ¬ fr 102 ad s.heap.size b := st_hA had b hbl
  refine lv_aload_n hx hb dL_law_172 rfl (lv_at hl 2 rfl) ?_
  refine lv_iconst (v := 0) hx hb dL_law_173 (by decide) ?_
  refine lv_iconst (v := 4) hx hb dL_law_174 (by decide) ?_
  refine lv_iconst (v := 0) hx hb dL_law_175 (by decide) ?_
  refine lv_iconst (v := 1) hx hb dL_law_176 (by decide) ?_
  refine w_calli (vx_runSW (As := [.ref (ad 0), .int 0, .int 4, .int 0, .int 1]) (rest := []) ⟨hx, hb, hml, hown, htsL⟩ (h_loan_eI l D cA ad K V tO tT hi I J X H.size 4 0 1 (f9 := 7) (o9 := 102) (by decide) (by decide) (x_X4_loan_1 l hst 102 D cA ad hi (Nat.le_refl _) I J X H.size 4 0 1 (by decide))) (vx_cwSW 5 htsL gL_law_L_does rfl rfl rfl (by decide +kernel) ⟨(Nat.le_of_ble_eq_true rfl), (Nat.le_of_ble_eq_true rfl)⟩) (w_preSA hK hP hXA hS) rfl rfl hl.1 rfl (lv_room (Nat.le_of_ble_eq_true rfl)) dL_law_177 ⟨by show _ ≤ 600104; omega, by show _ ≤ 7301314; omega⟩) hS (fun H locs hP hS => ?_)
  refine lv_bipush (v := (-2)) hx hb dL_law_180 (by decide) ?_
  refine lv_icmp_ne (tgt := 268) hx hb dL_law_182 (by decide) (fun z => absurd rfl z) (fun _ => ?_)
  refine lv_aload_n hx hb dL_law_185 rfl (lv_at hl 2 rfl) ?_
  refine lv_iconst (v := 0) hx hb dL_law_186 (by decide) ?_
  refine lv_iconst (v := 0) hx hb dL_law_187 (by decide) ?_
  refine lv_iconst (v := (-1)) hx hb dL_law_188 (by decide) ?_
  refine lv_iconst (v := 1) hx hb dL_law_189 (by decide) ?_
  refine w_calli (vx_runSW (As := [.ref (ad 0), .int 0, .int 0, .int (-1), .int 1]) (rest := []) ⟨hx, hb, hml, hown, htsL⟩ (h_loan_eI l D cA ad K V tO tT hi I J X H.size (nI 0) (-1) 1 (f9 := 7) (o9 := 102) (by decide) (by decide) (x_X4_loan_2 l hst 102 D cA ad hi (Nat.le_refl _) I J X H.size 0 (by decide) (-1) 1 (by decide))) (vx_cwSW 5 htsL gL_law_L_does rfl rfl rfl (by decide +kernel) ⟨(Nat.le_of_ble_eq_true rfl), (Nat.le_of_ble_eq_true rfl)⟩) (w_preSA hK hP hXA hS) rfl rfl hl.1 rfl (lv_room (Nat.le_of_ble_eq_true rfl)) dL_law_190 ⟨by show _ ≤ 600104; omega, by show _ ≤ 7301314; omega⟩) hS (fun H locs hP hS => ?_)
  refine lv_bipush (v := (-2)) hx hb dL_law_193 (by decide) ?_
  refine lv_icmp_ne (tgt := 268) hx hb dL_law_195 (by decide) (fun z => absurd rfl z) (fun _ => ?_)
  refine lv_aload_n hx hb dL_law_198 rfl (lv_at hl 2 rfl) ?_
  refine lv_iconst (v := 1) hx hb dL_law_199 (by decide) ?_
  refine lv_iconst (v := 0) hx hb dL_law_200 (by decide) ?_
  refine lv_iconst (v := 5) hx hb dL_law_201 (by decide) ?_
  refine lv_iconst (v := 0) hx hb dL_law_202 (by decide) ?_
  refine w_calli (vx_runSW (As := [.ref (ad 0), .int 1, .int 0, .int 5, .int 0]) (rest := []) ⟨hx, hb, hml, hown, htsL⟩ (h_strike_eI l D cA ad K V tO tT hi I J X H.size (nI 0) 5 0 (f9 := 7) (o9 := 102) (by decide) (by decide) (x_X4_strike_2 l hst 102 D cA ad hi (Nat.le_refl _) I J X H.size 0 (by decide) 5 (by decide))) (vx_cwSW 5 htsL gL_law_L_does rfl rfl rfl (by decide +kernel) ⟨(Nat.le_of_ble_eq_true rfl), (Nat.le_of_ble_eq_true rfl)⟩) (w_preSA hK hP hXA hS) rfl rfl hl.1 rfl (lv_room (Nat.le_of_ble_eq_true rfl)) dL_law_203 ⟨by show _ ≤ 600104; omega, by show _ ≤ 7301314; omega⟩) hS (fun H locs hP hS => ?_)
  refine lv_bipush (v := (-2)) hx hb dL_law_206 (by decide) ?_
  refine lv_icmp_ne (tgt := 268) hx hb dL_law_208 (by decide) (fun z => absurd rfl z) (fun _ => ?_)
  refine lv_aload_n hx hb dL_law_211 rfl (lv_at hl 2 rfl) ?_
  refine lv_iconst (v := 2) hx hb dL_law_212 (by decide) ?_
  refine lv_iconst (v := 0) hx hb dL_law_213 (by decide) ?_
  refine lv_iconst (v := (-1)) hx hb dL_law_214 (by decide) ?_
  refine lv_iconst (v := 0) hx hb dL_law_215 (by decide) ?_
  refine w_calli (vx_runSW (As := [.ref (ad 0), .int 2, .int 0, .int (-1), .int 0]) (rest := []) ⟨hx, hb, hml, hown, htsL⟩ (h_bar_eA l D cA ad K V tO tT hi I J X H.size (nI 0) (-1) 0 (f9 := 7) (o9 := 104) (by decide) (by decide) (x_X4_bar_2 l hst 102 D cA ad hi (Nat.le_refl _) I J X H.size 0 (by decide) (-1) (by decide))) (vx_cwSW 5 htsL gL_law_L_does rfl rfl rfl (by decide +kernel) ⟨(Nat.le_of_ble_eq_true rfl), (Nat.le_of_ble_eq_true rfl)⟩) (w_preSA hK hP hXA hS) rfl rfl hl.1 rfl (lv_room (Nat.le_of_ble_eq_true rfl)) dL_law_216 ⟨by show _ ≤ 600104; omega, by show _ ≤ 7301314; omega⟩) hS (fun H locs hP hS => ?_)
  refine lv_bipush (v := (-3)) hx hb dL_law_219 (by decide) ?_
  refine lv_icmp_ne (tgt := 268) hx hb dL_law_221 (by decide) (fun z => absurd rfl z) (fun _ => ?_)
  refine lv_aload_n hx hb dL_law_224 rfl (lv_at hl 2 rfl) ?_
  refine lv_iconst (v := 3) hx hb dL_law_225 (by decide) ?_
  refine lv_iconst (v := 0) hx hb dL_law_226 (by decide) ?_
  refine lv_bipush (v := 9) hx hb dL_law_227 (by decide) ?_
  refine lv_iconst (v := 0) hx hb dL_law_229 (by decide) ?_
  refine w_calli (vx_runSW (As := [.ref (ad 0), .int 3, .int 0, .int 9, .int 0]) (rest := []) ⟨hx, hb, hml, hown, htsL⟩ (h_rest_eI l D cA ad K V tO tT hi I J X H.size (nI 0) 9 0 (f9 := 7) (o9 := 102) (by decide) (by decide) (x_X4_rest_2 l hst 102 D cA ad hi (Nat.le_refl _) I J X H.size 0 (by decide) 9 (by decide))) (vx_cwSW 5 htsL gL_law_L_does rfl rfl rfl (by decide +kernel) ⟨(Nat.le_of_ble_eq_true rfl), (Nat.le_of_ble_eq_true rfl)⟩) (w_preSA hK hP hXA hS) rfl rfl hl.1 rfl (lv_room (Nat.le_of_ble_eq_true rfl)) dL_law_230 ⟨by show _ ≤ 600104; omega, by show _ ≤ 7301314; omega⟩) hS (fun H locs hP hS => ?_)
  refine lv_bipush (v := (-2)) hx hb dL_law_233 (by decide) ?_
  refine lv_icmp_ne (tgt := 268) hx hb dL_law_235 (by decide) (fun z => absurd rfl z) (fun _ => ?_)
  refine lv_aload_n hx hb dL_law_238 rfl (lv_at hl 2 rfl) ?_
  refine lv_bipush (v := 91) hx hb dL_law_239 (by decide) ?_
  refine lv_bipush (v := 100) hx hb dL_law_241 (by decide) ?_
  refine w_calli (vx_runSW (As := [.ref (ad 0), .int 91, .int 100]) (rest := []) ⟨hx, hb, hml, hown, htsL⟩ (h_walk_eA l D cA ad K V tO tT hi I J X H.size 91 100 (f9 := 7) (o9 := 104) (by decide) (by decide) (x_X4_walk_1 l hst 102 D cA ad hi (Nat.le_refl _) I J X H.size 91 100 (by decide))) (vx_cwSW 3 htsL gL_law_L_walks rfl rfl rfl (by decide +kernel) ⟨(Nat.le_of_ble_eq_true rfl), (Nat.le_of_ble_eq_true rfl)⟩) (w_preSA hK hP hXA hS) rfl rfl hl.1 rfl (lv_room (Nat.le_of_ble_eq_true rfl)) dL_law_243 ⟨by show _ ≤ 600104; omega, by show _ ≤ 7301314; omega⟩) hS (fun H locs hP hS => ?_)
  refine lv_bipush (v := (-3)) hx hb dL_law_246 (by decide) ?_
  refine lv_icmp_ne (tgt := 268) hx hb dL_law_248 (by decide) (fun z => absurd rfl z) (fun _ => ?_)
  refine lv_aload_n hx hb dL_law_251 rfl (lv_at hl 2 rfl) ?_
  refine lv_bipush (v := 90) hx hb dL_law_252 (by decide) ?_
  refine lv_ldc (v := 100001) hx hb hown (htsL (.constant RL 87 (100001)) (by decide +kernel)) dL_law_254 ?_
  refine w_calli (vx_runSW (As := [.ref (ad 0), .int 90, .int 100001]) (rest := []) ⟨hx, hb, hml, hown, htsL⟩ (h_walk_eA l D cA ad K V tO tT hi I J X H.size 90 100001 (f9 := 7) (o9 := 104) (by decide) (by decide) (x_X4_walk_2 l hst 102 D cA ad hi (Nat.le_refl _) I J X H.size 90 100001 (by decide) (by decide))) (vx_cwSW 3 htsL gL_law_L_walks rfl rfl rfl (by decide +kernel) ⟨(Nat.le_of_ble_eq_true rfl), (Nat.le_of_ble_eq_true rfl)⟩) (w_preSA hK hP hXA hS) rfl rfl hl.1 rfl (lv_room (Nat.le_of_ble_eq_true rfl)) dL_law_256 ⟨by show _ ≤ 600104; omega, by show _ ≤ 7301314; omega⟩) hS (fun H locs hP hS => ?_)
  refine lv_bipush (v := (-3)) hx hb dL_law_259 (by decide) ?_
  refine lv_icmp_ne (tgt := 268) hx hb dL_law_261 (by decide) (fun z => absurd rfl z) (fun _ => ?_)
  refine lv_iconst (v := 1) hx hb dL_law_264 (by decide) ?_
  refine lv_goto (tgt := 269) hx hb dL_law_265 (by decide) ?_
  refine va_forget (fun q hq => ?_) ?_
  · rcases hS.2.2 q hq with ⟨k, hk, e9⟩ | h9
    · rw [e9]; exact had k hk
    · exact h9
  refine W.widen (k := 600104) (n := 7301314) (by omega) (by omega) ?_
  exact lw_ret hx hb hr hlocks dL_law_269

set_option maxHeartbeats 1000000 in
set_option maxRecDepth 100000 in
theorem law_loop {p : Program} {e : Env} {s : State} {m : MethodId} {below : List Frame} {meth : Method} {c : Code} (l : Launch) (hst : l.stackTraces = false) {b L : Nat} {xs : Nat → Int32} (hL : L ≤ 260) (C0 : lw_At p s m meth c b L xs) {D : va_G} {cA : Nat → ClassId} {ad K V : Nat → Nat} {tO tT : Nat} (hi : inj 102 ad) (had : ∀ k, k < 102 → s.heap.size ≤ ad k) (hK : WK D cA s) (hXA : XA ad K V tO tT s.heap.size s) {X : SX} : ∀ (n t : Nat), t + n = 24 → ∀ (j : Nat) (I : SI) (J : SJ) (cells slots : Nat), j ≤ t → Inv3 j I J X → cells ≤ 200 + 3 * t → slots ≤ 2000 + 134 * t → ∀ (H : Heap) (locs : List Loc) (ls : Array Slot), WP 102 D cA ad I J X H → va_S (fr 102 ad s.heap.size) s.heap H locs → lv_has ls 10 [(3, .int (nI t)), (2, .int (I 0 6)), (1, .ref (ad 0)), (0, .ref b)] → W p l e room_1 s m #[Value.ref b] below meth c H locs cells slots (lw_Z below #[Value.ref b] s) (F0 m 14 ls [])
  | 0, t, h1 => by
    intro j I J cells slots hj hv hce hsl H locs ls hP hS hl
    obtain ⟨hx, hb, hr, hml, hown, hts, hX, hbl, hlocks, hgv⟩ := id C0
    refine lv_iload_n hx hb dL_law_14 rfl (lv_at hl 0 rfl) ?_
    refine lv_bipush (v := 24) hx hb dL_law_15 (by decide) ?_
    have hw := wn_le (x := 24) (y := nI t) (a := 24) (b := t) rfl rfl (by omega) (by omega)
    refine lv_icmp_ge (tgt := 172) hx hb dL_law_17 (by decide) (fun _ => ?_) (fun c1 => absurd (hw.mpr (by omega)) c1)
    exact law_end l hst hL C0 hi had hK hXA (by omega) (by omega) hP hS hl
  | n + 1, t, h1 => by
    intro j I J cells slots hj hv hce hsl H locs ls hP hS hl
    obtain ⟨hx, hb, hr, hml, hown, hts, hX, hbl, hlocks, hgv⟩ := id C0
    refine lv_iload_n hx hb dL_law_14 rfl (lv_at hl 0 rfl) ?_
    refine lv_bipush (v := 24) hx hb dL_law_15 (by decide) ?_
    have hw := wn_le (x := 24) (y := nI t) (a := 24) (b := t) rfl rfl (by omega) (by omega)
    refine lv_icmp_ge (tgt := 172) hx hb dL_law_17 (by decide) (fun c1 => absurd (hw.mp c1) (by omega)) (fun _ => ?_)
    refine law_t3 l hst hL C0 hi had hK hXA (by omega) (by omega) hv (by omega) (by omega) (fun j9 I J cl sl H locs ls g1 g2 g3 g4 g5 g6 g7 => ?_) hP hS hl
    refine lv_iinc (v := nI (t + 1)) (lv' := [(3, .int (nI (t + 1))), (2, .int (I 0 6)), (1, .ref (ad 0)), (0, .ref b)]) hx hb dL_law_166 g7 (k := 0) rfl (wn_inc (a := t) rfl) (by decide) rfl (fun ls hl => ?_)
    refine lv_goto (tgt := 14) hx hb dL_law_169 (by decide) ?_
    exact law_loop l hst hL C0 hi had hK hXA n (t + 1) (by omega) j9 I J cl sl (by omega) g2 (by omega) (by omega) H locs ls g5 g6 hl

theorem va_S.wide2 {A B : Nat → Prop} {H0 H : Heap} {locs : List Loc} (h : va_S A H0 H locs) (w : ∀ q, A q → B q) : va_S B H0 H locs := ⟨h.1, fun q h1 h2 => h.2.1 q h1 (fun z => h2 (w q z)), fun x hx => w _ (h.2.2 x hx)⟩
theorem hst_of {l : Launch} (h : l.flags = flags0) : l.stackTraces = false := by
  unfold Launch.stackTraces
  rw [h]
  decide +kernel
theorem inlX4' : ∀ w ∈ wsX40, w ∈ wsL_law := by decide +kernel

set_option maxHeartbeats 1000000 in
set_option maxRecDepth 100000 in
theorem whole_start {p : Program} {e : Env} {s : State} {m : MethodId} {below : List Frame} {meth : Method} {c : Code} (l : Launch) (hflags : l.flags = flags0) {b L : Nat} {xs : Nat → Int32} (hL : L ≤ 260) (C0 : lw_At p s m meth c b L xs) : W p l e room_1 s m #[Value.ref b] below meth c s.heap [] 0 0 (lw_Z below #[Value.ref b] s) (entryFrame m ([Value.ref b] : List Value).toArray 10) := by
  obtain ⟨hx, hb, hr, hml, hown, hts, hX, hbl, hlocks, hgv⟩ := id C0
  have hst := hst_of hflags
  have htsL : ∀ w ∈ wsL_law, w.before #[Value.ref b] s = true := fun w hw => lw_hts2 hts w (wsL_law_in w hw)
  obtain ⟨D, cA, hK⟩ := law_K hts
  obtain ⟨hAO, hAQ, hNL⟩ := law_AO hts
  obtain ⟨a0, ea0⟩ : ∃ a0, a0 = s.heap.size := ⟨_, rfl⟩
  have hZ0 : va_Z RJ0 "COMPACT_STRINGS" "Z" (.int 1) (fun q : Nat => s.heap.size ≤ q) s s.heap := law_Z hts hgv (fun a h z => by omega)
  have hA : ∀ q : Nat, s.heap.size ≤ q → (fun q : Nat => s.heap.size ≤ q) q := fun _ h => h
  generalize hAe : (fun q : Nat => s.heap.size ≤ q) = A at hA hZ0
  have hS : va_S A s.heap s.heap [] := va_S.rf
  have hz : s.heap.size = a0 := ea0.symm
  have hP : va_P D vwCl [] s.heap := fun k q h => by simp at h
  have hD : va_D A [] := ⟨fun i j p q h => by simp at h, fun k q h => by simp at h⟩
  have hl := lv_entry ([.ref b]) (n := 10) (Nat.le_of_ble_eq_true rfl)
  rw [lg_entry_eq]
  generalize (lg_sl ([.ref b]) ++ List.replicate (10 - (lg_sl ([.ref b])).length) Slot.unset).toArray = ls at hl ⊢
  have hl : lv_has ls 10 [(0, .ref b)] := hl
  suffices KK : ∀ (H : Heap) (locs : List Loc), H = s.heap → va_P D vwCl [] H → va_S A s.heap H locs → W p l e room_1 s m #[Value.ref b] below meth c H locs 0 0 (lw_Z below #[Value.ref b] s) (F0 m 0 ls []) from KK _ _ rfl hP hS
  clear hP hS
  intro H locs eH hP hS
  have hz : H.size = a0 := by rw [eH]; exact hz
  refine n_new (C := RX4) (T := TX4) (N := 7) (ci := 8) (fs := [.null, .null, .null, .null, .null, .int 0, .int 0]) hx hb htsL inlX4' tyX4 tyX4_ok hown (htsL (.classLink RL 10 RX4) (by decide +kernel)) (htsL (.instantiable RX4 7) (by decide +kernel)) (htsL (.initialized RX4) (by decide +kernel)) hK hP hD hS hA (h := a0) hz rfl (fun j hj => by have h9 : j = 0 ∨ j = 1 ∨ j = 2 ∨ j = 3 ∨ j = 4 ∨ j = 5 ∨ j = 6 := (by omega); rcases h9 with h9 | h9 | h9 | h9 | h9 | h9 | h9 <;> (subst h9; rfl)) (Nat.le_of_ble_eq_true rfl) (Nat.le_of_ble_eq_true rfl) dL_law_0 (fun H1 hz1 hP1 hD1 hS1 => ?_)
  clear hP hD hS hz eH H
  refine lv_dup hx hb dL_law_3 rfl ?_
  have hZ1 : va_Z RJ0 "COMPACT_STRINGS" "Z" (.int 1) (nA a0 (a0 + 1)) s H1 := (va_Z.kept hZ0 hS1.2.1).narrow (fun q h => hA q (by rcases h with h | h <;> omega))
  refine va_callv (va_runI (As := []) (rest := [.ref a0]) ⟨hx, hb, hml, hown, htsL⟩ (c_X4_new l D cA a0 (cnF I0) (nbF I0) (fun w => (sqB I0 10000000 I0 J0 w).1) (fun w => (sqB I0 10000000 I0 J0 w).2) rfl rfl start_all.2.2.1) (cwI 0 htsL gL_law_X4_init rfl rfl rfl (htsL (.initialized RX4) (by decide +kernel)) (htsL (.methodLink RL 63 yX4_init) (by decide +kernel)) (htsL (.instanceMethod yX4_init) (by decide +kernel)) rfl (by decide +kernel) ⟨(Nat.le_of_ble_eq_true rfl), (Nat.le_of_ble_eq_true rfl)⟩) ⟨fun a U g mk q => by
    obtain ⟨q0, q1, q2, q3, q4, q5, q6, q7⟩ := q
    exact ⟨q0, q1, q2, va_K.moved (u := U) (U := U.calling g mk a) (Vm.Alike.refl U.vm) q3, q4.moved (U := U.calling g mk a) (Vm.Alike.refl U.vm), q5.moved (U := U.calling g mk a) (Vm.Alike.refl U.vm), ⟨va_Nw.same (U := U.calling g mk a) rfl rfl q6.1, va_Nw.same (U := U.calling g mk a) rfl rfl q6.2.1, va_Nw.same (U := U.calling g mk a) rfl rfl q6.2.2⟩, q7.moved (U := U.calling g mk a) (Vm.Alike.refl U.vm)⟩, fun U hU hW => ⟨rfl, by rw [hU]; exact hz1, by rw [hU]; exact hP1, va_K.moved hW.alike hK, hAO.moved hW.alike, hAQ.moved hW.alike, ⟨hNL.1.warmM hW, hNL.2.1.warmM hW, hNL.2.2.warmM hW⟩, by rw [hU]; exact va_Z.moved hW.alike hZ1⟩⟩ rfl rfl hl.1 rfl (lv_room (Nat.le_of_ble_eq_true rfl)) dL_law_4 ⟨(Nat.le_of_ble_eq_true rfl), (Nat.le_of_ble_eq_true rfl)⟩) hS1 (fun q _ h => hA q (by rcases h with h | h <;> omega)) (fun q h => hA q (by rcases h with h | h <;> omega)) (fun u t H locs ht hvm hu hB hz2 hk1 hS => ?_)
  have hW0 : WP 102 D cA (adF a0) CS.1 CS.2 X0 H := by rw [← ht]; unfold CS; exact hB.2
  clear hB ht hvm hu hz2 hk1 hS1 hZ1 hP1 hD1 hz1 H1
  refine lv_astore_n (lv' := [(1, .ref a0), (0, .ref b)]) hx hb dL_law_7 rfl hl (by decide) rfl (fun ls hl => ?_)
  refine lv_sipush (v := 1000) hx hb dL_law_8 (by decide) ?_
  refine lv_istore_n (lv' := [(2, .int 1000), (1, .ref a0), (0, .ref b)]) hx hb dL_law_11 rfl hl (by decide) rfl (fun ls hl => ?_)
  refine lv_iconst (v := 0) hx hb dL_law_12 (by decide) ?_
  refine lv_istore_n (lv' := [(3, .int 0), (2, .int 1000), (1, .ref a0), (0, .ref b)]) hx hb dL_law_13 rfl hl (by decide) rfl (fun ls hl => ?_)
  obtain ⟨st1, st2', st3⟩ := start3
  have hW4 : WP 102 D cA (adF a0) (RS 4).1 (RS 4).2 X0 H := by
    unfold WP
    rw [wld_cg (fun a q => ⟨(st2' a q).1, (st2' a q).2, rfl⟩)]
    exact hW0
  have had : ∀ k, k < 102 → s.heap.size ≤ adF a0 k := fun k hk => by rw [← ea0]; unfold adF; omega
  have hi := adF_inj a0 102 (by decide)
  have e0 : adF a0 0 = a0 := rfl
  have hhA := st_hA had
  obtain ⟨hXS, hN1, hN2, hN3⟩ := law_XS hts hgv hhA
  obtain ⟨K, V, tO, tT, hXL⟩ := law_XL hts hgv hhA
  have hS3 : va_S (fr 102 (adF a0) s.heap.size) s.heap H _ := va_S.wide2 hS (fun q h => Or.inr (by rw [← hAe] at h; exact h))
  have hl9 : lv_has ls 10 [(3, .int (nI 0)), (2, .int ((RS 4).1 0 6)), (1, .ref (adF a0 0)), (0, .ref b)] := by rw [e0, st3]; exact hl
  exact law_loop l hst hL C0 hi had hK ⟨hXS, hXL, hN1, hN2, hN3⟩ 24 0 (by decide) 0 (RS 4).1 (RS 4).2 _ _ (Nat.le_refl _) st1 (by decide) (by decide) H _ ls hW4 hS3 hl9
