/-! the law's start -/
theorem va_P_l {D : va_G} {A B : va_W} {H : Heap} (h : va_P D vwCl (A ++ B) H) : va_P D vwCl A H := fun k q hk => h k q (by
  rw [List.getElem?_append_left ((List.getElem?_eq_some_iff.mp hk).1)]; exact hk)
theorem va_P_r {D : va_G} {A B : va_W} {H : Heap} (h : va_P D vwCl (A ++ B) H) : va_P D vwCl B H := fun k q hk => h (A.length + k) q (by
  rw [List.getElem?_append_right (by omega), Nat.add_sub_cancel_left]; exact hk)
theorem hst_of {l : Launch} (h : l.flags = flags0) : l.stackTraces = false := by
  unfold Launch.stackTraces
  rw [h]
  decide +kernel
theorem inlX4' : ∀ w ∈ wsX40, w ∈ wsL_law := by decide +kernel
theorem inlX5' : ∀ w ∈ wsX50, w ∈ wsL_law := by decide +kernel

set_option maxHeartbeats 800000 in
set_option maxRecDepth 100000 in
theorem whole_start {p : Program} {e : Env} {s : State} {m : MethodId} {below : List Frame} {meth : Method} {c : Code} (l : Launch) (hflags : l.flags = flags0) {b L : Nat} {xs : Nat → Int32} (hL : L ≤ 2560) (C0 : lw_At p s m meth c b L xs) : W p l e room_1 s m #[Value.ref b] below meth c s.heap [] 0 0 (lw_Z below #[Value.ref b] s) (entryFrame m ([Value.ref b] : List Value).toArray 9) := by
  obtain ⟨hx, hb, hr, hml, hown, hts, hX, hbl, hlocks, hgv⟩ := id C0
  have hst := hst_of hflags
  have htsL : ∀ w ∈ wsL_law, w.before #[Value.ref b] s = true := fun w hw => lw_hts2 hts w (wsL_law_in w hw)
  obtain ⟨D, cA, hK⟩ := law_K hts
  obtain ⟨hAO, hAQ, hNL⟩ := law_AO hts
  obtain ⟨a0, ea0⟩ : ∃ a0, a0 = s.heap.size := ⟨_, rfl⟩
  have hZ0 : va_Z RJ0 "COMPACT_STRINGS" "Z" (.int 1) (fun q : Nat => s.heap.size ≤ q) s s.heap := law_Z hts hgv (fun a h z => by omega)
  have hA : ∀ q : Nat, s.heap.size ≤ q → (fun q : Nat => s.heap.size ≤ q) q := fun _ h => h
  generalize hAe : (fun q : Nat => s.heap.size ≤ q) = A at hA hZ0
  have hS : va_S A s.heap s.heap [] := va_S.rf
  have hz : s.heap.size = a0 := ea0.symm
  have hP : va_P D vwCl [] s.heap := fun k q h => by simp at h
  have hD : va_D A [] := ⟨fun i j p q h => by simp at h, fun k q h => by simp at h⟩
  have hl := lv_entry ([.ref b]) (n := 9) (Nat.le_of_ble_eq_true rfl)
  rw [lg_entry_eq]
  generalize (lg_sl ([.ref b]) ++ List.replicate (9 - (lg_sl ([.ref b])).length) Slot.unset).toArray = ls at hl ⊢
  have hl : lv_has ls 9 [(0, .ref b)] := hl
  suffices KK : ∀ (H : Heap) (locs : List Loc), H = s.heap → va_P D vwCl [] H → va_S A s.heap H locs → W p l e room_1 s m #[Value.ref b] below meth c H locs 0 0 (lw_Z below #[Value.ref b] s) (F0 m 0 ls []) from KK _ _ rfl hP hS
  clear hP hS
  intro H locs eH hP hS
  have hz : H.size = a0 := by rw [eH]; exact hz
  refine n_new (C := RX4) (T := TX4) (N := 7) (ci := 8) (fs := [.null, .null, .null, .null, .null, .int 0, .int 0]) hx hb htsL inlX4' tyX4 tyX4_ok hown (htsL (.classLink RL 8 RX4) (by decide +kernel)) (htsL (.instantiable RX4 7) (by decide +kernel)) (htsL (.initialized RX4) (by decide +kernel)) hK hP hD hS hA (h := a0) hz rfl (fun j hj => by have h9 : j = 0 ∨ j = 1 ∨ j = 2 ∨ j = 3 ∨ j = 4 ∨ j = 5 ∨ j = 6 := (by omega); rcases h9 with h9 | h9 | h9 | h9 | h9 | h9 | h9 <;> (subst h9; rfl)) (Nat.le_of_ble_eq_true rfl) (Nat.le_of_ble_eq_true rfl) dL_law_0 (fun H1 hz1 hP1 hD1 hS1 => ?_)
  clear hP hD hS hz eH H
  refine lv_dup hx hb dL_law_3 rfl ?_
  have hZ1 : va_Z RJ0 "COMPACT_STRINGS" "Z" (.int 1) (nA a0 (a0 + 1)) s H1 := (va_Z.kept hZ0 hS1.2.1).narrow (fun q h => hA q (by rcases h with h | h <;> omega))
  refine va_callv (va_runI (As := []) (rest := [.ref a0]) ⟨hx, hb, hml, hown, htsL⟩ (c_X4_new l D cA a0 (cnF I0) (nbF I0) (fun w => (sqB I0 10000000 I0 J0 w).1) (fun w => (sqB I0 10000000 I0 J0 w).2) rfl rfl start_all.2.2.1) (cwI 0 htsL gL_law_X4_init rfl rfl rfl (htsL (.initialized RX4) (by decide +kernel)) (htsL (.methodLink RL 54 yX4_init) (by decide +kernel)) (htsL (.instanceMethod yX4_init) (by decide +kernel)) rfl (by decide +kernel) ⟨(Nat.le_of_ble_eq_true rfl), (Nat.le_of_ble_eq_true rfl)⟩) ⟨fun a U g mk q => by
    obtain ⟨q0, q1, q2, q3, q4, q5, q6, q7⟩ := q
    exact ⟨q0, q1, q2, va_K.moved (u := U) (U := U.calling g mk a) (Vm.Alike.refl U.vm) q3, q4.moved (U := U.calling g mk a) (Vm.Alike.refl U.vm), q5.moved (U := U.calling g mk a) (Vm.Alike.refl U.vm), ⟨va_Nw.same (U := U.calling g mk a) rfl rfl q6.1, va_Nw.same (U := U.calling g mk a) rfl rfl q6.2.1, va_Nw.same (U := U.calling g mk a) rfl rfl q6.2.2⟩, q7.moved (U := U.calling g mk a) (Vm.Alike.refl U.vm)⟩, fun U hU hW => ⟨rfl, by rw [hU]; exact hz1, by rw [hU]; exact hP1, va_K.moved hW.alike hK, hAO.moved hW.alike, hAQ.moved hW.alike, ⟨hNL.1.warmM hW, hNL.2.1.warmM hW, hNL.2.2.warmM hW⟩, by rw [hU]; exact va_Z.moved hW.alike hZ1⟩⟩ rfl rfl hl.1 rfl (lv_room (Nat.le_of_ble_eq_true rfl)) dL_law_4 ⟨(Nat.le_of_ble_eq_true rfl), (Nat.le_of_ble_eq_true rfl)⟩) hS1 (fun q _ h => hA q (by rcases h with h | h <;> omega)) (fun q h => hA q (by rcases h with h | h <;> omega)) (fun u t H locs ht hvm hu hB hz2 hk1 hS => ?_)
  have hW : WP 102 D cA (adF a0) CS.1 CS.2 X0 H := by rw [← ht]; unfold CS; exact hB.2
  have hzH : a0 + 102 ≤ H.size := by rw [← ht]; exact hB.1
  clear hB ht hvm hu hz2 hk1 hS1 hZ1 hP1 hD1 hz1 H1
  refine lv_astore_n (lv' := [(1, .ref a0), (0, .ref b)]) hx hb dL_law_7 rfl hl (by decide) rfl (fun ls hl => ?_)
  obtain ⟨b0, eb0⟩ : ∃ b0, b0 = H.size := ⟨_, rfl⟩
  have hlo : ∀ k, k < 102 → adF a0 k < b0 := fun k hk => by rw [eb0]; exact wp_lt hW hk
  have hD2 : va_D A (wld 102 cA (adF a0) CS.1 CS.2 X0) := wld_D (adF_inj a0 102 (by decide)) (fun k hk => hA _ (by unfold adF; omega))
  refine n_new (C := RX5) (T := TX5) (N := 15) (ci := 9) (fs := [.null, .null, .int 0, .int 0, .int 0, .null, .null, .null, .null, .null, .null, .null, .null, .null, .int 0]) hx hb htsL inlX5' tyX5 tyX5_ok hown (htsL (.classLink RL 55 RX5) (by decide +kernel)) (htsL (.instantiable RX5 15) (by decide +kernel)) (htsL (.initialized RX5) (by decide +kernel)) hK hW hD2 hS hA (h := b0) eb0.symm rfl (fun j hj => by have h9 : j = 0 ∨ j = 1 ∨ j = 2 ∨ j = 3 ∨ j = 4 ∨ j = 5 ∨ j = 6 ∨ j = 7 ∨ j = 8 ∨ j = 9 ∨ j = 10 ∨ j = 11 ∨ j = 12 ∨ j = 13 ∨ j = 14 := (by omega); rcases h9 with h9 | h9 | h9 | h9 | h9 | h9 | h9 | h9 | h9 | h9 | h9 | h9 | h9 | h9 | h9 <;> (subst h9; rfl)) (Nat.le_of_ble_eq_true rfl) (Nat.le_of_ble_eq_true rfl) dL_law_8 (fun H1 hz1 hP1 hD1 hS1 => ?_)
  have hW1 := va_P_l hP1
  have hO1 := va_P_r hP1
  have hb0 : a0 + 102 ≤ b0 := by omega
  clear hP1 hD1 hD2 hW hS hzH eb0 H
  refine lv_dup hx hb dL_law_11 rfl ?_
  have hIz : ∀ k, 102 ≤ k → CS.1 k = I0 k := fun k hk => funext fun y => cs_I k y (by omega)
  have hJz : ∀ k, 102 ≤ k → CS.2 k = J0 k := fun k hk => cs_J k (by omega)
  have hfA : ∀ q, fr 114 (adJ 102 (adF a0) b0) (b0 + 1) q → A q := fun q h => hA q (by
    rcases h with ⟨k, hk, e9⟩ | h
    · rw [e9]; unfold adJ; split
      · unfold adF; omega
      · omega
    · omega)
  refine va_callv (va_runI (As := []) (rest := [.ref b0]) ⟨hx, hb, hml, hown, htsL⟩ (c_X5_new l D cA (adF a0) (adF_inj a0 102 (by decide)) b0 hlo CS.1 CS.2 X0 hIz hJz (fun _ _ => rfl) (loF I0) (fun v => (RS v).1) (fun v => (RS v).2) start_all.2.2.2.1 (by unfold RS; rfl) (by unfold RS; rfl)) (cwI 0 htsL gL_law_X5_init rfl rfl rfl (htsL (.initialized RX5) (by decide +kernel)) (htsL (.methodLink RL 57 yX5_init) (by decide +kernel)) (htsL (.instanceMethod yX5_init) (by decide +kernel)) rfl (by decide +kernel) ⟨(Nat.le_of_ble_eq_true rfl), (Nat.le_of_ble_eq_true rfl)⟩) ⟨fun a U g mk q => by
    obtain ⟨q0, q1, q2, q3, q4⟩ := q
    exact ⟨q0, q1, q2, q3, va_K.moved (u := U) (U := U.calling g mk a) (Vm.Alike.refl U.vm) q4⟩, fun U hU hW => ⟨rfl, by rw [hU]; exact hz1, by rw [hU]; exact hW1, by rw [hU]; exact hO1, va_K.moved hW.alike hK⟩⟩ rfl rfl hl.1 rfl (lv_room (Nat.le_of_ble_eq_true rfl)) dL_law_12 ⟨(Nat.le_of_ble_eq_true rfl), (Nat.le_of_ble_eq_true rfl)⟩) hS1 (fun q _ h => hfA q h) hfA (fun u t H locs ht hvm hu hB hz2 hk1 hS => ?_)
  have hW : WP 114 D cA (adJ 102 (adF a0) b0) (RS 4).1 (RS 4).2 X0 H := by rw [← ht]; exact hB.2
  have hzH : b0 + 12 ≤ H.size := by rw [← ht]; exact hB.1
  clear hB ht hvm hu hz2 hk1 hS1 hz1 hW1 hO1 H1
  refine lv_astore_n (lv' := [(2, .ref b0), (1, .ref a0), (0, .ref b)]) hx hb dL_law_15 rfl hl (by decide) rfl (fun ls hl => ?_)
  obtain ⟨c0, ec0⟩ : ∃ c0, c0 = H.size := ⟨_, rfl⟩
  have hi2 : inj 114 (adJ 102 (adF a0) b0) := adJ_inj (adF_inj a0 102 (by decide)) hlo
  have hge : ∀ k, a0 ≤ adJ 102 (adF a0) b0 k := fun k => by
    unfold adJ; split
    · unfold adF; omega
    · omega
  have hlo2 : ∀ k, k < 114 → adJ 102 (adF a0) b0 k < c0 := fun k hk => by rw [ec0]; exact wp_lt hW hk
  have hD2 : va_D A (wld 114 cA (adJ 102 (adF a0) b0) (RS 4).1 (RS 4).2 X0) := wld_D hi2 (fun k hk => hA _ (by have := hge k; omega))
  refine lv_iconst (v := 1) hx hb dL_law_16 (by decide) ?_
  refine n_newa hx hb (atype := .long) (ty := .long) (cy := cA 1) (htsL (.arrayClass .long) (by decide +kernel)) rfl hK 1 rfl (fun z => z) hW hD2 hS hA (h := c0) ec0.symm (N' := 1) (a0 := (1, .inr (.inl (fun _ => 0)))) rfl (by decide) rfl (by decide) (Nat.le_of_ble_eq_true rfl) (Nat.le_of_ble_eq_true rfl) dL_law_17 (fun H1 hz1 hP1 hD1 hS1 => ?_)
  have hc0 : b0 + 12 ≤ c0 := by omega
  clear hD2 hW hS ec0
  refine lv_astore_n (lv' := [(3, .ref c0), (2, .ref b0), (1, .ref a0), (0, .ref b)]) hx hb dL_law_19 rfl hl (by decide) rfl (fun ls hl => ?_)
  refine lv_iconst (v := 1) hx hb dL_law_20 (by decide) ?_
  refine n_newa hx hb (atype := .double) (ty := .double) (cy := cA 2) (htsL (.arrayClass .double) (by decide +kernel)) rfl hK 2 rfl (fun z => z) hP1 hD1 hS1 hA (h := c0 + 1) hz1 (N' := 1) (a0 := (1, .inr (.inr (.inr (.inl (fun _ => 0)))))) rfl (by decide) rfl (by decide) (Nat.le_of_ble_eq_true rfl) (Nat.le_of_ble_eq_true rfl) dL_law_21 (fun H2 hz2 hP2 hD2 hS2 => ?_)
  have hx115 := va_P_r hP2
  have hP3 := va_P_l hP2
  have hx114 := va_P_r hP3
  have hW3 := va_P_l hP3
  clear hP1 hD1 hS1 hz1 hP2 hD2 hP3
  refine lv_astore (lv' := [(4, .ref (c0 + 1)), (3, .ref c0), (2, .ref b0), (1, .ref a0), (0, .ref b)]) hx hb dL_law_23 hl (by decide) rfl (fun ls hl => ?_)
  refine lv_iconst (v := 0) hx hb dL_law_25 (by decide) ?_
  refine lv_istore (lv' := [(5, .int 0), (4, .ref (c0 + 1)), (3, .ref c0), (2, .ref b0), (1, .ref a0), (0, .ref b)]) hx hb dL_law_26 hl (by decide) rfl (fun ls hl => ?_)
  obtain ⟨ad, ead⟩ : ∃ ad : Nat → Nat, ad = adJ 114 (adJ 102 (adF a0) b0) c0 := ⟨_, rfl⟩
  have hW4 : WP 116 D cA ad (RS 4).1 (RS 4).2 X0 H2 := by
    rw [ead]
    refine wJoin (Or.inr rfl) hW3 (fun k q1 q2 => ?_)
    have q3 : k = 114 ∨ k = 115 := by omega
    rcases q3 with r | r
    · subst r; rw [ent_j rfl, rs_J 114 (by decide)]; exact hx114 0 _ rfl
    · subst r; rw [ent_x rfl]; exact hx115 0 _ rfl
  have hi : inj 116 ad := by rw [ead]; exact adJ_inj hi2 hlo2
  have had : ∀ k, k < 116 → s.heap.size ≤ ad k := fun k hk => by
    rw [ead, ← ea0]
    unfold adJ
    split
    · exact hge k
    · omega
  have e0 : ad 0 = a0 := by rw [ead]; rfl
  have e102 : ad 102 = b0 := by rw [ead]; rfl
  have e114 : ad 114 = c0 := by rw [ead]; rfl
  have e115 : ad 115 = c0 + 1 := by rw [ead]; rfl
  have hhA := st_hA had
  obtain ⟨hXS, hN1, hN2⟩ := law_XS hts hgv hhA
  obtain ⟨K, V, tO, tT, hXL⟩ := law_XL hts hgv hhA
  have hS3 : va_S (fr 116 ad s.heap.size) s.heap H2 _ := hS2.wide (fun q h => Or.inr (by rw [← hAe] at h; exact h))
  have hl9 : lv_has ls 9 [(5, .int (nI (5 * 0))), (4, .ref (ad 115)), (3, .ref (ad 114)), (2, .ref (ad 102)), (1, .ref (ad 0)), (0, .ref b)] := by rw [e0, e102, e114, e115]; exact hl
  exact law_loop l hst hL C0 hi had hK ⟨hXS, hXL, hN1, hN2⟩ 513 0 (by omega) (by omega) 0 (RS 4).1 (RS 4).2 X0 _ _ (Nat.le_refl _) start_ok2 (by decide) (by decide) H2 _ ls hW4 hS3 hl9
