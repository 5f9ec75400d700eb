/-! what the law tells -/
/-- a line's sign -/
theorem text3 (l : Launch) (D : va_G) (cA : Nat → ClassId) (ad K V : Nat → Nat) (tO tT : Nat) (hi : inj 102 ad) {j : Nat} {I I0 : SI} {J : SJ} {X : SX} (hv : Inv3 j I J X) (hs : tS I I0) (r k : Nat) (hr : r < 4) (hk : k < 5) (pl : Nat) (hpl : pl < 2147483648) :
    ∃ I1 : SI, tS I I1 ∧ ∀ sz, Met l yX4_text wsX4_text ({ frames := 6, cells := 0, slots := 0, locals := 151 }) (va_Pc [.ref (ad 0), .int (nI r), .int (nI k), .int (nI pl)] (wPreL 102 D cA ad K V tO tT I0 J X sz)) (qI 102 D cA ad sz (txV I r k pl) I1 J X) 0 0 (fr 102 ad sz) := by
  obtain ⟨hs1, hc, n, hn, en⟩ := hs
  have hW : W99 I := hv.1.1.2.1
  have e3 : I0 (3 + r) = I (3 + r) := hs1 _ (by omega) (by omega)
  have e7 : I0 7 = I 7 := hs1 7 (by decide) (by decide)
  obtain ⟨a, b⟩ := hW r k hr hk
  have ew : I0 (3 + r) k = nI (I (3 + r) k).toInt.toNat := by
    rw [e3]
    apply Int32.toInt_inj.mp
    rw [nI_toInt (by omega)]
    omega
  obtain ⟨h, hh, eh⟩ := hv.1.2 k hk
  have eh2 : (I 7 k).toInt.toNat = h := by rw [eh, nI_toInt (by omega)]; omega
  have hlen := lineL_len (r := r) (b := k) (I (3 + r) k).toInt.toNat h hr hk
  refine ⟨tL (sbM I0 n) (lineL r k (I (3 + r) k).toInt.toNat h), ⟨fun a q1 q2 => funext fun b => ?_, ?_, (lineL r k (I (3 + r) k).toInt.toNat h).length, by omega, by rw [tL_cnt]⟩, fun sz => ?_⟩
  · unfold tL
    rw [if_neg (by omega), if_neg (by omega), sbM_o _ _ (by omega), hs1 a q1 q2]
  · rw [tL_cod, sbM_o _ _ (by omega)]; exact hc
  · have hq := c_X4_text_ok l 102 D cA ad K V tO tT hi (Nat.le_refl _) I0 J X sz r k (I (3 + r) k).toInt.toNat h n hr hk ew (by omega) (by rw [e7]; exact eh) hh en (by omega) hc pl hpl
    unfold txV
    rw [eh2]
    exact hq

set_option maxHeartbeats 4000000 in
set_option maxRecDepth 100000 in
theorem lp_L_tellA {p : Program} {l : Launch} {e : Env} {s : State} {m : MethodId} {args : Array Value} {below : List Frame} {meth : Method} {c : Code} {Q : State → Prop} {D : va_G} {cA : Nat → ClassId} {ad : Nat → Nat} (hi : inj 102 ad) (hx : p.tables.exec = Jvm.exec) (hb : c.code = cL_tell) (hml : c.maxLocals = 5) (hown : s.vm.findClass RL = some m.cls) (hts : ∀ w ∈ wsL_tell, w.before args s = true) (hK : WK D cA s) (I : SI) (J : SJ) (X : SX) (v : Nat) (hv4 : v < 4) (q : Nat) (hq : ∀ k, k < 102 → ad k ≠ q) (hAq : fr 102 ad s.heap.size q) (kx : ∀ (H : Heap) (locs : List Loc), WP 102 D cA ad I J X H → AT cA q (tF J v 9) H → va_S (fr 102 ad s.heap.size) s.heap H locs → ∀ (ls : Array Slot), lv_has ls 5 [(3, .int (nI (v))), (2, .ref (q)), (0, .ref (ad 0))] → W p l e (headSpec wsL_tell ({ frames := 20, cells := 1, slots := 64, locals := 1000 })).room s m args below meth c H locs 1 64 Q (F0 m 67 ls [])) : ∀ (t n : Nat), n + t = 9 → ∀ (H : Heap) (locs : List Loc), WP 102 D cA ad I J X H → AT cA q (tF J v n) H → va_S (fr 102 ad s.heap.size) s.heap H locs → ∀ (ls : Array Slot), lv_has ls 5 [(4, .int (nI (n))), (3, .int (nI (v))), (2, .ref (q)), (0, .ref (ad 0))] → W p l e (headSpec wsL_tell ({ frames := 20, cells := 1, slots := 64, locals := 1000 })).room s m args below meth c H locs 1 64 Q (F0 m 14 ls []) := by
  have hA : ∀ k, k < 102 → fr 102 ad s.heap.size (ad k) := fr_ad
  intro t
  induction t with
  | zero =>
    intro n hn  H locs hP hT hS ls hl
    obtain rfl : 9 = n := by omega
    refine lv_iload hx hb dL_tell_14 (lv_at hl 0 rfl) ?_
    refine lv_bipush (v := 9) hx hb dL_tell_16 (by decide) ?_
    refine lv_icmp_ge (tgt := 67) hx hb dL_tell_18 (by decide) (fun cc => ?_) (fun cc => ?_)
    · have qcc : 9 ≤ 9 := (wn_le (a := 9) (b := 9) rfl rfl (by omega) (by omega)).mp cc
      exact kx  H locs hP hT hS ls (lv_sub hl [1, 2, 3] rfl)
    · have qcc : ¬ 9 ≤ 9 := fun z => cc ((wn_le (a := 9) (b := 9) rfl rfl (by omega) (by omega)).mpr z)
      exact absurd qcc (by omega)
  | succ t ih =>
    intro n hn  H locs hP hT hS ls hl
    refine lv_iload hx hb dL_tell_14 (lv_at hl 0 rfl) ?_
    refine lv_bipush (v := 9) hx hb dL_tell_16 (by decide) ?_
    refine lv_icmp_ge (tgt := 67) hx hb dL_tell_18 (by decide) (fun cc => ?_) (fun cc => ?_)
    · have qcc : 9 ≤ n := (wn_le (a := 9) (b := n) rfl rfl (by omega) (by omega)).mp cc
      exact absurd qcc (by omega)
    · have qcc : ¬ 9 ≤ n := fun z => cc ((wn_le (a := 9) (b := n) rfl rfl (by omega) (by omega)).mpr z)
      refine lv_aload_n hx hb dL_tell_21 rfl (lv_at hl 2 rfl) ?_
      refine lv_iload hx hb dL_tell_22 (lv_at hl 0 rfl) ?_
      refine lv_aload_n hx hb dL_tell_24 rfl (lv_at hl 3 rfl) ?_
      refine lv_iload_n hx hb dL_tell_25 rfl (lv_at hl 1 rfl) ?_
      refine lv_iload hx hb dL_tell_26 (lv_at hl 0 rfl) ?_
      refine t_calli (va_runV (As := [.int (nI (v)), .int (nI (n))]) (rest := [.int (nI (n)), .ref (q)]) ⟨hx, hb, hml, hown, hts⟩ (c_X4_landed_ok l 102 D cA ad hi (Nat.le_refl _) I J X H.size v n (by omega) (by omega)) (cwV 2 hts gL_tell_X4_landed rfl rfl rfl (by decide +kernel) ⟨(Nat.le_of_ble_eq_true rfl), (Nat.le_of_ble_eq_true rfl)⟩) (w_preV hK hP 0 (by decide) ⟨rfl, rfl⟩ rfl) rfl rfl hl.1 rfl (lv_room (Nat.le_of_ble_eq_true rfl)) dL_tell_28 ⟨(Nat.le_of_ble_eq_true rfl), (Nat.le_of_ble_eq_true rfl)⟩) hT hq hS (fun H locs hP hT hS => ?_)
      refine t_iast (i := n) (v := (J (35 + v) n).toInt32) hx hb hK hP hi hA hS hT hq hAq (by omega) (x := nI (n)) rfl dL_tell_31 (fun H locs hP hT hS => ?_)
      refine lv_aload_n hx hb dL_tell_32 rfl (lv_at hl 2 rfl) ?_
      refine lv_bipush (v := 9) hx hb dL_tell_33 (by decide) ?_
      refine lv_iload hx hb dL_tell_35 (lv_at hl 0 rfl) ?_
      refine w_iaddN (a := 9) (b := n) hx hb rfl rfl dL_tell_37 ?_
      refine lv_aload_n hx hb dL_tell_38 rfl (lv_at hl 3 rfl) ?_
      refine lv_iload_n hx hb dL_tell_39 rfl (lv_at hl 1 rfl) ?_
      refine lv_iload hx hb dL_tell_40 (lv_at hl 0 rfl) ?_
      refine t_calli (va_runV (As := [.int (nI (v)), .int (nI (n))]) (rest := [.int (nI (9 + n)), .ref (q)]) ⟨hx, hb, hml, hown, hts⟩ (c_X4_rest_ok l 102 D cA ad hi (Nat.le_refl _) I J X H.size v n (by omega) (by omega)) (cwV 2 hts gL_tell_X4_rest rfl rfl rfl (by decide +kernel) ⟨(Nat.le_of_ble_eq_true rfl), (Nat.le_of_ble_eq_true rfl)⟩) (w_preV hK hP 0 (by decide) ⟨rfl, rfl⟩ rfl) rfl rfl hl.1 rfl (lv_room (Nat.le_of_ble_eq_true rfl)) dL_tell_42 ⟨(Nat.le_of_ble_eq_true rfl), (Nat.le_of_ble_eq_true rfl)⟩) hT hq hS (fun H locs hP hT hS => ?_)
      refine t_iast (i := (9 + n)) (v := (J (39 + v) n).toInt32) hx hb hK hP hi hA hS hT hq hAq (by omega) (x := nI (9 + n)) rfl dL_tell_45 (fun H locs hP hT hS => ?_)
      refine lv_aload_n hx hb dL_tell_46 rfl (lv_at hl 2 rfl) ?_
      refine lv_bipush (v := 18) hx hb dL_tell_47 (by decide) ?_
      refine lv_iload hx hb dL_tell_49 (lv_at hl 0 rfl) ?_
      refine w_iaddN (a := 18) (b := n) hx hb rfl rfl dL_tell_51 ?_
      refine lv_aload_n hx hb dL_tell_52 rfl (lv_at hl 3 rfl) ?_
      refine lv_iload_n hx hb dL_tell_53 rfl (lv_at hl 1 rfl) ?_
      refine lv_iload_n hx hb dL_tell_54 rfl (lv_at hl 1 rfl) ?_
      refine lv_iload hx hb dL_tell_55 (lv_at hl 0 rfl) ?_
      refine t_calli (va_runV (As := [.int (nI (v)), .int (nI (v)), .int (nI (n))]) (rest := [.int (nI (18 + n)), .ref (q)]) ⟨hx, hb, hml, hown, hts⟩ (c_X4_sent_ok l 102 D cA ad hi (Nat.le_refl _) I J X H.size v v n (by omega) (by omega) (by omega)) (cwV 3 hts gL_tell_X4_sent rfl rfl rfl (by decide +kernel) ⟨(Nat.le_of_ble_eq_true rfl), (Nat.le_of_ble_eq_true rfl)⟩) (w_preV hK hP 0 (by decide) ⟨rfl, rfl⟩ rfl) rfl rfl hl.1 rfl (lv_room (Nat.le_of_ble_eq_true rfl)) dL_tell_57 ⟨(Nat.le_of_ble_eq_true rfl), (Nat.le_of_ble_eq_true rfl)⟩) hT hq hS (fun H locs hP hT hS => ?_)
      refine t_iast (i := (18 + n)) (v := (J (47 + 9 * v + v) n).toInt32) hx hb hK hP hi hA hS hT hq hAq (by omega) (x := nI (18 + n)) rfl dL_tell_60 (fun H locs hP hT hS => ?_)
      refine lv_iinc (v := nI (n + 1)) (lv' := [(4, .int (nI (n + 1))), (3, .int (nI (v))), (2, .ref (q)), (0, .ref (ad 0))]) hx hb dL_tell_61 hl (k := 0) rfl (wn_inc rfl) (by decide) rfl (fun ls hl => ?_)
      refine lv_goto (tgt := 14) hx hb dL_tell_64 (by decide) ?_
      exact ih (n + 1) (by omega)  H locs hP hT hS ls (lv_cong (l := [(4, .int (nI (n + 1))), (3, .int (nI (v))), (2, .ref (q)), (0, .ref (ad 0))]) (l' := [(4, .int (nI ((n + 1)))), (3, .int (nI (v))), (2, .ref (q)), (0, .ref (ad 0))]) (lv_sub hl [0, 1, 2, 3] rfl) (by subst_vars; rfl))

set_option maxHeartbeats 4000000 in
set_option maxRecDepth 100000 in
theorem lp_L_tellB {p : Program} {l : Launch} {e : Env} {s : State} {m : MethodId} {args : Array Value} {below : List Frame} {meth : Method} {c : Code} {Q : State → Prop} {D : va_G} {cA : Nat → ClassId} {ad : Nat → Nat} (hi : inj 102 ad) (hx : p.tables.exec = Jvm.exec) (hb : c.code = cL_tell) (hml : c.maxLocals = 5) (hown : s.vm.findClass RL = some m.cls) (hts : ∀ w ∈ wsL_tell, w.before args s = true) (hK : WK D cA s) (I : SI) (J : SJ) (X : SX) (v : Nat) (hv4 : v < 4) (q : Nat) (hq : ∀ k, k < 102 → ad k ≠ q) (hAq : fr 102 ad s.heap.size q) {K V : Nat → Nat} {tO tT : Nat} (hXA : XA ad K V tO tT s.heap.size s) {j : Nat} (hv : Inv3 j I J X) (kx : ∀ (I0 : SI), tS I I0 → ∀ (H : Heap) (locs : List Loc), WP 102 D cA ad I0 J X H → AT cA q (tG I J v 20) H → va_S (fr 102 ad s.heap.size) s.heap H locs → ∀ (ls : Array Slot), lv_has ls 5 [(3, .int (nI (v))), (2, .ref (q)), (0, .ref (ad 0))] → W p l e (headSpec wsL_tell ({ frames := 20, cells := 1, slots := 64, locals := 1000 })).room s m args below meth c H locs 1 64 Q (F0 m 123 ls [])) : ∀ (t n : Nat), n + t = 20 → ∀ (I0 : SI), tS I I0 → ∀ (H : Heap) (locs : List Loc), WP 102 D cA ad I0 J X H → AT cA q (tG I J v n) H → va_S (fr 102 ad s.heap.size) s.heap H locs → ∀ (ls : Array Slot), lv_has ls 5 [(4, .int (nI (n))), (3, .int (nI (v))), (2, .ref (q)), (0, .ref (ad 0))] → W p l e (headSpec wsL_tell ({ frames := 20, cells := 1, slots := 64, locals := 1000 })).room s m args below meth c H locs 1 64 Q (F0 m 70 ls []) := by
  have hA : ∀ k, k < 102 → fr 102 ad s.heap.size (ad k) := fr_ad
  intro t
  induction t with
  | zero =>
    intro n hn I0 hs0 H locs hP hT hS ls hl
    obtain rfl : 20 = n := by omega
    refine lv_iload hx hb dL_tell_70 (lv_at hl 0 rfl) ?_
    refine lv_bipush (v := 20) hx hb dL_tell_72 (by decide) ?_
    refine lv_icmp_ge (tgt := 123) hx hb dL_tell_74 (by decide) (fun cc => ?_) (fun cc => ?_)
    · have qcc : 20 ≤ 20 := (wn_le (a := 20) (b := 20) rfl rfl (by omega) (by omega)).mp cc
      exact kx I0 hs0 H locs hP hT hS ls (lv_sub hl [1, 2, 3] rfl)
    · have qcc : ¬ 20 ≤ 20 := fun z => cc ((wn_le (a := 20) (b := 20) rfl rfl (by omega) (by omega)).mpr z)
      exact absurd qcc (by omega)
  | succ t ih =>
    intro n hn I0 hs0 H locs hP hT hS ls hl
    refine lv_iload hx hb dL_tell_70 (lv_at hl 0 rfl) ?_
    refine lv_bipush (v := 20) hx hb dL_tell_72 (by decide) ?_
    refine lv_icmp_ge (tgt := 123) hx hb dL_tell_74 (by decide) (fun cc => ?_) (fun cc => ?_)
    · have qcc : 20 ≤ n := (wn_le (a := 20) (b := n) rfl rfl (by omega) (by omega)).mp cc
      exact absurd qcc (by omega)
    · have qcc : ¬ 20 ≤ n := fun z => cc ((wn_le (a := 20) (b := n) rfl rfl (by omega) (by omega)).mpr z)
      refine lv_aload_n hx hb dL_tell_77 rfl (lv_at hl 2 rfl) ?_
      refine lv_bipush (v := 27) hx hb dL_tell_78 (by decide) ?_
      refine lv_iload hx hb dL_tell_80 (lv_at hl 0 rfl) ?_
      refine w_iaddN (a := 27) (b := n) hx hb rfl rfl dL_tell_82 ?_
      refine lv_aload_n hx hb dL_tell_83 rfl (lv_at hl 3 rfl) ?_
      refine lv_iload hx hb dL_tell_84 (lv_at hl 0 rfl) ?_
      refine lv_iconst (v := 5) hx hb dL_tell_86 (by decide) ?_
      refine lv_idiv hx hb dL_tell_87 (by decide) ?_
      refine w_topN (a := (n / 5)) (nI_quo (a := n) (n := 5) (by omega) (by decide) (by decide)) ?_
      refine lv_iload hx hb dL_tell_88 (lv_at hl 0 rfl) ?_
      refine lv_iconst (v := 5) hx hb dL_tell_90 (by decide) ?_
      refine lv_irem hx hb dL_tell_91 (by decide) ?_
      refine w_topN (a := (n % 5)) (nI_rem (a := n) (n := 5) (by omega) (by decide) (by decide)) ?_
      refine lv_bipush (v := 6) hx hb dL_tell_92 (by decide) ?_
      obtain ⟨I_t1, hs1, hM1⟩ := text3 l D cA ad K V tO tT hi hv hs0 (n / 5) (n % 5) (by omega) (by omega) 6 (by decide)
      refine t_calli (va_runV (As := [.int (nI (n / 5)), .int (nI (n % 5)), .int (6)]) (rest := [.int (nI (27 + n)), .ref (q)]) ⟨hx, hb, hml, hown, hts⟩ (hM1 H.size) (cwV 3 hts gL_tell_X4_text rfl rfl rfl (by decide +kernel) ⟨(Nat.le_of_ble_eq_true rfl), (Nat.le_of_ble_eq_true rfl)⟩) (w_preVL hK hP hXA.2.1 hS 0 (by decide) ⟨rfl, rfl⟩ rfl) rfl rfl hl.1 rfl (lv_room (Nat.le_of_ble_eq_true rfl)) dL_tell_94 ⟨(Nat.le_of_ble_eq_true rfl), (Nat.le_of_ble_eq_true rfl)⟩) hT hq hS (fun H locs hP hT hS => ?_)
      refine lv_sipush (v := 200) hx hb dL_tell_97 (by decide) ?_
      refine lv_aload_n hx hb dL_tell_100 rfl (lv_at hl 3 rfl) ?_
      refine lv_iload hx hb dL_tell_101 (lv_at hl 0 rfl) ?_
      refine lv_iconst (v := 5) hx hb dL_tell_103 (by decide) ?_
      refine lv_idiv hx hb dL_tell_104 (by decide) ?_
      refine w_topN (a := (n / 5)) (nI_quo (a := n) (n := 5) (by omega) (by decide) (by decide)) ?_
      refine lv_iload hx hb dL_tell_105 (lv_at hl 0 rfl) ?_
      refine lv_iconst (v := 5) hx hb dL_tell_107 (by decide) ?_
      refine lv_irem hx hb dL_tell_108 (by decide) ?_
      refine w_topN (a := (n % 5)) (nI_rem (a := n) (n := 5) (by omega) (by decide) (by decide)) ?_
      refine lv_bipush (v := 7) hx hb dL_tell_109 (by decide) ?_
      obtain ⟨I_t2, hs2, hM2⟩ := text3 l D cA ad K V tO tT hi hv hs1 (n / 5) (n % 5) (by omega) (by omega) 7 (by decide)
      refine t_calli (va_runV (As := [.int (nI (n / 5)), .int (nI (n % 5)), .int (7)]) (rest := [.int (200), .int (txV I (n / 5) (n % 5) 6), .int (nI (27 + n)), .ref (q)]) ⟨hx, hb, hml, hown, hts⟩ (hM2 H.size) (cwV 3 hts gL_tell_X4_text rfl rfl rfl (by decide +kernel) ⟨(Nat.le_of_ble_eq_true rfl), (Nat.le_of_ble_eq_true rfl)⟩) (w_preVL hK hP hXA.2.1 hS 0 (by decide) ⟨rfl, rfl⟩ rfl) rfl rfl hl.1 rfl (lv_room (Nat.le_of_ble_eq_true rfl)) dL_tell_111 ⟨(Nat.le_of_ble_eq_true rfl), (Nat.le_of_ble_eq_true rfl)⟩) hT hq hS (fun H locs hP hT hS => ?_)
      refine lv_imul hx hb dL_tell_114 ?_
      refine lv_iadd hx hb dL_tell_115 ?_
      refine t_iast (i := (27 + n)) (v := (txV I (n / 5) (n % 5) 6) + (200 * (txV I (n / 5) (n % 5) 7))) hx hb hK hP hi hA hS hT hq hAq (by omega) (x := nI (27 + n)) rfl dL_tell_116 (fun H locs hP hT hS => ?_)
      refine lv_iinc (v := nI (n + 1)) (lv' := [(4, .int (nI (n + 1))), (3, .int (nI (v))), (2, .ref (q)), (0, .ref (ad 0))]) hx hb dL_tell_117 hl (k := 0) rfl (wn_inc rfl) (by decide) rfl (fun ls hl => ?_)
      refine lv_goto (tgt := 70) hx hb dL_tell_120 (by decide) ?_
      exact ih (n + 1) (by omega) I_t2 hs2 H locs hP hT hS ls (lv_cong (l := [(4, .int (nI (n + 1))), (3, .int (nI (v))), (2, .ref (q)), (0, .ref (ad 0))]) (l' := [(4, .int (nI ((n + 1)))), (3, .int (nI (v))), (2, .ref (q)), (0, .ref (ad 0))]) (lv_sub hl [0, 1, 2, 3] rfl) (by subst_vars; rfl))

set_option maxHeartbeats 4000000 in
set_option maxRecDepth 100000 in
theorem c_L_tell (l : Launch) (D : va_G) (cA : Nat → ClassId) (ad K V : Nat → Nat) (tO tT : Nat) (hi : inj 102 ad) {j : Nat} {I : SI} {J : SJ} {X : SX} (hv : Inv3 j I J X) (y : Int32) (sz : Nat) : Met l yL_tell wsL_tell ({ frames := 20, cells := 1, slots := 64, locals := 1000 }) (va_Pc [.ref (ad 0), .int y] (wPreA D cA ad K V tO tT I J X sz)) (qT D cA ad sz I J X (lowN y 4)) 1 64 (fr 102 ad sz) := by
  refine Met.ofW (cc := cL_tell) (maxL := 5) (ret := (some (.array .int))) (by decide) rfl ?_
  intro p e s m args below meth c s₁ B hml hv0
  obtain ⟨rfl, ⟨rfl, hP, hK⟩, hXA⟩ := hv0
  have hx := B.exec
  have hb := B.bytes
  have hr := B.returns
  have hts := atoms_spec (ws := wsL_tell) B.pre
  have hown : s.vm.findClass RL = some m.cls := findClass_of_methodNamed B.named
  have hlocks := B.notSynchronized
  have hS : va_S (fr 102 ad s.heap.size) s.heap s.heap [] := va_S.rf
  have hA : ∀ k, k < 102 → fr 102 ad s.heap.size (ad k) := fr_ad
  have hl := lv_entry ([.ref (ad 0), .int y]) (n := 5) (Nat.le_of_ble_eq_true rfl)
  rw [lg_entry_eq]
  generalize (lg_sl ([.ref (ad 0), .int y]) ++ List.replicate (5 - (lg_sl ([.ref (ad 0), .int y])).length) Slot.unset).toArray = ls at hl ⊢
  have hl : lv_has ls 5 [(0, .ref (ad 0)), (1, .int y)] := hl
  have hv4 : lowN y 4 < 4 := lowN_lt (by decide)
  refine lv_bipush (v := 64) hx hb dL_tell_0 (by decide) ?_
  refine t_newa hx hb (hts (.arrayClass .int) (List.mem_of_getElem? (i := 1) rfl)) hK hP hi hA hS fr_ge (by decide) (Nat.le_of_ble_eq_true rfl) (Nat.le_of_ble_eq_true rfl) dL_tell_2 (fun q H hAq hq hP hT hS => ?_)
  have hAs := hAq; have hAq : fr 102 ad s.heap.size q := Or.inr hAq
  refine lv_astore_n (lv' := [(2, .ref (q)), (0, .ref (ad 0)), (1, .int (y))]) hx hb dL_tell_4 rfl hl (by decide) rfl (fun ls hl => ?_)
  refine lv_iload_n hx hb dL_tell_5 rfl (lv_at hl 2 rfl) ?_
  refine lv_iconst (v := 4) hx hb dL_tell_6 (by decide) ?_
  refine t_calli (va_runS (As := [.int (y), .int (4)]) (rest := []) ⟨hx, hb, hml, hown, hts⟩ (c_L_low l 102 D cA ad hi (Nat.le_refl _) I J X H.size (y) 4 ⟨by decide, by decide⟩) (va_cwS 2 hts gL_tell_L_low rfl rfl rfl (by decide +kernel) ⟨(Nat.le_of_ble_eq_true rfl), (Nat.le_of_ble_eq_true rfl)⟩) (w_preS hK hP) rfl rfl hl.1 rfl (lv_room (Nat.le_of_ble_eq_true rfl)) dL_tell_7 ⟨(Nat.le_of_ble_eq_true rfl), (Nat.le_of_ble_eq_true rfl)⟩) hT hq hS (fun H locs hP hT hS => ?_)
  refine lv_istore_n (lv' := [(3, .int (nI (lowN y 4))), (2, .ref (q)), (0, .ref (ad 0)), (1, .int (y))]) hx hb dL_tell_10 rfl hl (by decide) rfl (fun ls hl => ?_)
  refine lv_iconst (v := 0) hx hb dL_tell_11 (by decide) ?_
  refine lv_istore (lv' := [(4, .int (0)), (3, .int (nI (lowN y 4))), (2, .ref (q)), (0, .ref (ad 0)), (1, .int (y))]) hx hb dL_tell_12 hl (by decide) rfl (fun ls hl => ?_)
  refine lp_L_tellA hi hx hb hml hown hts hK I J X (lowN y 4) hv4 q hq hAq (fun H locs hP hT hS ls hl => ?_) 9 0 (by decide) _ _ hP hT hS ls (lv_cong (l := [(4, .int (0)), (3, .int (nI (lowN y 4))), (2, .ref (q)), (0, .ref (ad 0))]) (l' := [(4, .int (nI (0))), (3, .int (nI (lowN y 4))), (2, .ref (q)), (0, .ref (ad 0))]) (lv_sub hl [0, 1, 2, 3] rfl) (by subst_vars; rfl))
  refine lv_iconst (v := 0) hx hb dL_tell_67 (by decide) ?_
  refine lv_istore (lv' := [(4, .int (0)), (3, .int (nI (lowN y 4))), (2, .ref (q)), (0, .ref (ad 0))]) hx hb dL_tell_68 hl (by decide) rfl (fun ls hl => ?_)
  refine lp_L_tellB hi hx hb hml hown hts hK I J X (lowN y 4) hv4 q hq hAq hXA hv (fun I0 hs0 H locs hP hT hS ls hl => ?_) 20 0 (by decide) I (tS.rf hv.1.sb) _ _ hP hT hS ls (lv_cong (l := [(4, .int (0)), (3, .int (nI (lowN y 4))), (2, .ref (q)), (0, .ref (ad 0))]) (l' := [(4, .int (nI (0))), (3, .int (nI (lowN y 4))), (2, .ref (q)), (0, .ref (ad 0))]) (lv_sub hl [0, 1, 2, 3] rfl) (by subst_vars; rfl))
  refine lv_aload_n hx hb dL_tell_123 rfl (lv_at hl 1 rfl) ?_
  refine lv_bipush (v := 47) hx hb dL_tell_124 (by decide) ?_
  refine lv_aload_n hx hb dL_tell_126 rfl (lv_at hl 2 rfl) ?_
  refine t_calli (va_runV (As := []) (rest := [.int (47), .ref (q)]) ⟨hx, hb, hml, hown, hts⟩ (c_X4_pushes l 102 D cA ad hi (Nat.le_refl _) I0 J X H.size) (cwV 0 hts gL_tell_X4_pushes rfl rfl rfl (by decide +kernel) ⟨(Nat.le_of_ble_eq_true rfl), (Nat.le_of_ble_eq_true rfl)⟩) (w_preV hK hP 0 (by decide) ⟨rfl, rfl⟩ rfl) rfl rfl hl.1 rfl (lv_room (Nat.le_of_ble_eq_true rfl)) dL_tell_127 ⟨(Nat.le_of_ble_eq_true rfl), (Nat.le_of_ble_eq_true rfl)⟩) hT hq hS (fun H locs hP hT hS => ?_)
  refine t_iast (i := 47) (v := pcS I0 4) hx hb hK hP hi hA hS hT hq hAq (by omega) (x := 47) rfl dL_tell_130 (fun H locs hP hT hS => ?_)
  refine lv_aload_n hx hb dL_tell_131 rfl (lv_at hl 1 rfl) ?_
  rw [pcS_cg (I := I) (I' := I0) (fun w hw => by rw [hs0.1 (31 + w) (by omega) (by omega)]) 4 (Nat.le_refl _)] at hT
  exact W.aret hx hb hr (Or.inr ⟨_, rfl⟩) (Or.inr ⟨q, rfl⟩) (fun t ht hW => ⟨⟨(), q, rfl, trivial, hAs, hq, by rw [ht]; exact hT, I0, hs0, by rw [ht]; exact hP, va_K.moved hW.alike hK⟩, hS.F ht⟩) hS.2.2 dL_tell_132 hlocks

/-! what the law asks -/
theorem sl_st {a b c : Int64} : a + b + c = a + (b + c) := Int64.add_assoc a b c

set_option maxHeartbeats 4000000 in
set_option maxRecDepth 100000 in
theorem lp_L_asksB {p : Program} {l : Launch} {e : Env} {s : State} {m : MethodId} {args : Array Value} {below : List Frame} {meth : Method} {c : Code} {Q : State → Prop} {D : va_G} {cA : Nat → ClassId} {ad : Nat → Nat} (hi : inj 102 ad) (hx : p.tables.exec = Jvm.exec) (hb : c.code = cL_asks) (hml : c.maxLocals = 12) (hown : s.vm.findClass RL = some m.cls) (hts : ∀ w ∈ wsL_asks, w.before args s = true) (hK : WK D cA s) {j : Nat} {I : SI} {J : SJ} {X : SX} (hv : Inv3 j I J X) (hj : j < 26) (v : Nat) (hv4 : v < 4) (n : Nat) (hn9 : n < 9) (al : Int64) (kx : ∀ (H : Heap) (locs : List Loc), WP 102 D cA ad I J X H → va_S (fr 102 ad s.heap.size) s.heap H locs → ∀ (ls : Array Slot), lv_has ls 12 [(9, .long ((if n = v then 1000000 else 0 : Int64) + sL (fun i => J (47 + 9 * v + i) n) 9)), (7, .long ((J (35 + v) n + J (39 + v) n) + sL (fun o => J (47 + 9 * v + n) o) 9)), (4, .long (al)), (6, .int (nI (n))), (3, .int (nI (v))), (2, .int (I 0 6)), (0, .ref (ad 0))] → W p l e (headSpec wsL_asks ({ frames := 5, cells := 0, slots := 0, locals := 200 })).room s m args below meth c H locs 0 0 Q (F0 m 106 ls [])) : ∀ (t i9 : Nat), i9 + t = 9 → ∀ (H : Heap) (locs : List Loc), WP 102 D cA ad I J X H → va_S (fr 102 ad s.heap.size) s.heap H locs → ∀ (ls : Array Slot), lv_has ls 12 [(11, .int (nI (i9))), (9, .long ((if n = v then 1000000 else 0 : Int64) + sL (fun i => J (47 + 9 * v + i) n) i9)), (7, .long ((J (35 + v) n + J (39 + v) n) + sL (fun o => J (47 + 9 * v + n) o) i9)), (4, .long (al)), (6, .int (nI (n))), (3, .int (nI (v))), (2, .int (I 0 6)), (0, .ref (ad 0))] → W p l e (headSpec wsL_asks ({ frames := 5, cells := 0, slots := 0, locals := 200 })).room s m args below meth c H locs 0 0 Q (F0 m 63 ls []) := by
  intro t
  induction t with
  | zero =>
    intro i9 hi9 H locs hP hS ls hl
    obtain rfl : 9 = i9 := by omega
    refine lv_iload hx hb dL_asks_63 (lv_at hl 0 rfl) ?_
    refine lv_bipush (v := 9) hx hb dL_asks_65 (by decide) ?_
    refine lv_icmp_ge (tgt := 106) hx hb dL_asks_67 (by decide) (fun cc => ?_) (fun cc => ?_)
    · have qcc : 9 ≤ 9 := (wn_le (a := 9) (b := 9) rfl rfl (by omega) (by omega)).mp cc
      exact kx H locs hP hS ls (lv_sub hl [1, 2, 3, 4, 5, 6, 7] rfl)
    · have qcc : ¬ 9 ≤ 9 := fun z => cc ((wn_le (a := 9) (b := 9) rfl rfl (by omega) (by omega)).mpr z)
      exact absurd qcc (by omega)
  | succ t ih =>
    intro i9 hi9 H locs hP hS ls hl
    refine lv_iload hx hb dL_asks_63 (lv_at hl 0 rfl) ?_
    refine lv_bipush (v := 9) hx hb dL_asks_65 (by decide) ?_
    refine lv_icmp_ge (tgt := 106) hx hb dL_asks_67 (by decide) (fun cc => ?_) (fun cc => ?_)
    · have qcc : 9 ≤ i9 := (wn_le (a := 9) (b := i9) rfl rfl (by omega) (by omega)).mp cc
      exact absurd qcc (by omega)
    · have qcc : ¬ 9 ≤ i9 := fun z => cc ((wn_le (a := 9) (b := i9) rfl rfl (by omega) (by omega)).mpr z)
      refine lv_lload hx hb dL_asks_70 (lv_at hl 2 rfl) ?_
      refine lv_aload_n hx hb dL_asks_72 rfl (lv_at hl 7 rfl) ?_
      refine lv_iload_n hx hb dL_asks_73 rfl (lv_at hl 5 rfl) ?_
      refine lv_iload hx hb dL_asks_74 (lv_at hl 4 rfl) ?_
      refine lv_iload hx hb dL_asks_76 (lv_at hl 0 rfl) ?_
      refine w_calli (va_runV (As := [.int (nI (v)), .int (nI (n)), .int (nI (i9))]) (rest := [.long ((J (35 + v) n + J (39 + v) n) + sL (fun o => J (47 + 9 * v + n) o) i9)]) ⟨hx, hb, hml, hown, hts⟩ (c_X4_sent_ok l 102 D cA ad hi (Nat.le_refl _) I J X H.size v n i9 (by omega) (by omega) (by omega)) (cwV 3 hts gL_asks_X4_sent rfl rfl rfl (by decide +kernel) ⟨(Nat.le_of_ble_eq_true rfl), (Nat.le_of_ble_eq_true rfl)⟩) (w_preV hK hP 0 (by decide) ⟨rfl, rfl⟩ rfl) rfl rfl hl.1 rfl (lv_room (Nat.le_of_ble_eq_true rfl)) dL_asks_78 ⟨(Nat.le_of_ble_eq_true rfl), (Nat.le_of_ble_eq_true rfl)⟩) hS (fun H locs hP hS => ?_)
      refine lv_i2l (v := J (47 + 9 * v + n) i9) hx hb dL_asks_81 (sm64 (Nat.lt_of_le_of_lt (s_small hv.1 hj hv4 hn9 (o := i9) (by omega)) (by decide))) ?_
      refine lv_ladd hx hb dL_asks_82 ?_
      refine lv_topl (fun ou eou => ?_)
      refine lv_lstore (lv' := [(7, .long (ou)), (11, .int (nI (i9))), (9, .long ((if n = v then 1000000 else 0 : Int64) + sL (fun i => J (47 + 9 * v + i) n) i9)), (4, .long (al)), (6, .int (nI (n))), (3, .int (nI (v))), (2, .int (I 0 6)), (0, .ref (ad 0))]) hx hb dL_asks_83 hl (by decide) rfl (fun ls hl => ?_)
      refine lv_lload hx hb dL_asks_85 (lv_at hl 2 rfl) ?_
      refine lv_aload_n hx hb dL_asks_87 rfl (lv_at hl 7 rfl) ?_
      refine lv_iload_n hx hb dL_asks_88 rfl (lv_at hl 5 rfl) ?_
      refine lv_iload hx hb dL_asks_89 (lv_at hl 1 rfl) ?_
      refine lv_iload hx hb dL_asks_91 (lv_at hl 4 rfl) ?_
      refine w_calli (va_runV (As := [.int (nI (v)), .int (nI (i9)), .int (nI (n))]) (rest := [.long ((if n = v then 1000000 else 0 : Int64) + sL (fun i => J (47 + 9 * v + i) n) i9)]) ⟨hx, hb, hml, hown, hts⟩ (c_X4_sent_ok l 102 D cA ad hi (Nat.le_refl _) I J X H.size v i9 n (by omega) (by omega) (by omega)) (cwV 3 hts gL_asks_X4_sent rfl rfl rfl (by decide +kernel) ⟨(Nat.le_of_ble_eq_true rfl), (Nat.le_of_ble_eq_true rfl)⟩) (w_preV hK hP 0 (by decide) ⟨rfl, rfl⟩ rfl) rfl rfl hl.1 rfl (lv_room (Nat.le_of_ble_eq_true rfl)) dL_asks_93 ⟨(Nat.le_of_ble_eq_true rfl), (Nat.le_of_ble_eq_true rfl)⟩) hS (fun H locs hP hS => ?_)
      refine lv_i2l (v := J (47 + 9 * v + i9) n) hx hb dL_asks_96 (sm64 (Nat.lt_of_le_of_lt (s_small hv.1 hj hv4 (n := i9) (o := n) (by omega) hn9) (by decide))) ?_
      refine lv_ladd hx hb dL_asks_97 ?_
      refine lv_topl (fun io eio => ?_)
      refine lv_lstore (lv' := [(9, .long (io)), (7, .long (ou)), (11, .int (nI (i9))), (4, .long (al)), (6, .int (nI (n))), (3, .int (nI (v))), (2, .int (I 0 6)), (0, .ref (ad 0))]) hx hb dL_asks_98 hl (by decide) rfl (fun ls hl => ?_)
      refine lv_iinc (v := nI (i9 + 1)) (lv' := [(11, .int (nI (i9 + 1))), (9, .long (io)), (7, .long (ou)), (4, .long (al)), (6, .int (nI (n))), (3, .int (nI (v))), (2, .int (I 0 6)), (0, .ref (ad 0))]) hx hb dL_asks_100 hl (k := 2) rfl (wn_inc rfl) (by decide) rfl (fun ls hl => ?_)
      refine lv_goto (tgt := 63) hx hb dL_asks_103 (by decide) ?_
      exact ih (i9 + 1) (by omega) H locs hP hS ls (lv_cong (l := [(11, .int (nI (i9 + 1))), (9, .long (io)), (7, .long (ou)), (4, .long (al)), (6, .int (nI (n))), (3, .int (nI (v))), (2, .int (I 0 6)), (0, .ref (ad 0))]) (l' := [(11, .int (nI ((i9 + 1)))), (9, .long ((if n = v then 1000000 else 0 : Int64) + sL (fun i => J (47 + 9 * v + i) n) (i9 + 1))), (7, .long ((J (35 + v) n + J (39 + v) n) + sL (fun o => J (47 + 9 * v + n) o) (i9 + 1))), (4, .long (al)), (6, .int (nI (n))), (3, .int (nI (v))), (2, .int (I 0 6)), (0, .ref (ad 0))]) (lv_sub hl [0, 1, 2, 3, 4, 5, 6, 7] rfl) (by subst_vars; simp only [sL, Int64.add_assoc]))

set_option maxHeartbeats 4000000 in
set_option maxRecDepth 100000 in
theorem lp_L_asksA {p : Program} {l : Launch} {e : Env} {s : State} {m : MethodId} {args : Array Value} {below : List Frame} {meth : Method} {c : Code} {Q : State → Prop} {D : va_G} {cA : Nat → ClassId} {ad : Nat → Nat} (hi : inj 102 ad) (hx : p.tables.exec = Jvm.exec) (hb : c.code = cL_asks) (hml : c.maxLocals = 12) (hown : s.vm.findClass RL = some m.cls) (hts : ∀ w ∈ wsL_asks, w.before args s = true) (hK : WK D cA s) {j : Nat} {I : SI} {J : SJ} {X : SX} (hv : Inv3 j I J X) (hj : j < 26) (v : Nat) (hv4 : v < 4) (kx : ∀ (H : Heap) (locs : List Loc), WP 102 D cA ad I J X H → va_S (fr 102 ad s.heap.size) s.heap H locs → ∀ (ls : Array Slot), lv_has ls 12 [(4, .long (sL (fun i => J (35 + v) i + J (39 + v) i) 9)), (0, .ref (ad 0))] → W p l e (headSpec wsL_asks ({ frames := 5, cells := 0, slots := 0, locals := 200 })).room s m args below meth c H locs 0 0 Q (F0 m 145 ls [])) : ∀ (t n : Nat), n + t = 9 → ∀ (H : Heap) (locs : List Loc), WP 102 D cA ad I J X H → va_S (fr 102 ad s.heap.size) s.heap H locs → ∀ (ls : Array Slot), lv_has ls 12 [(6, .int (nI (n))), (4, .long (sL (fun i => J (35 + v) i + J (39 + v) i) n)), (3, .int (nI (v))), (2, .int (I 0 6)), (0, .ref (ad 0))] → W p l e (headSpec wsL_asks ({ frames := 5, cells := 0, slots := 0, locals := 200 })).room s m args below meth c H locs 0 0 Q (F0 m 12 ls []) := by
  intro t
  induction t with
  | zero =>
    intro n hn H locs hP hS ls hl
    obtain rfl : 9 = n := by omega
    refine lv_iload hx hb dL_asks_12 (lv_at hl 0 rfl) ?_
    refine lv_bipush (v := 9) hx hb dL_asks_14 (by decide) ?_
    refine lv_icmp_ge (tgt := 145) hx hb dL_asks_16 (by decide) (fun cc => ?_) (fun cc => ?_)
    · have qcc : 9 ≤ 9 := (wn_le (a := 9) (b := 9) rfl rfl (by omega) (by omega)).mp cc
      exact kx H locs hP hS ls (lv_sub hl [1, 4] rfl)
    · have qcc : ¬ 9 ≤ 9 := fun z => cc ((wn_le (a := 9) (b := 9) rfl rfl (by omega) (by omega)).mpr z)
      exact absurd qcc (by omega)
  | succ t ih =>
    intro n hn H locs hP hS ls hl
    have hb0 := hv.bd
    obtain ⟨r1, r2⟩ := rest_lt hv.2.2 hb0 hv4 (k := n) (by omega)
    have hl8 : (J (35 + v) n).toInt.natAbs < 2147483648 := Nat.lt_of_le_of_lt (l_small hv hj hv4 (k := n) (by omega)) (by decide)
    have hr8 : (J (39 + v) n).toInt.natAbs < 2147483648 := by omega
    have hR1 : ¬ I 0 6 ≤ (J (39 + v) n).toInt32 := fun z => by rw [Int32.le_iff_toInt_le, sm32 hr8] at z; omega
    have hR2 : -(I 0 6) < (J (39 + v) n).toInt32 := by
      have e : (-(I 0 6)).toInt = -(I 0 6).toInt := by rw [Int32.toInt_neg, Int.bmod_def]; omega
      rw [Int32.lt_iff_toInt_lt, sm32 hr8, e]
      omega
    have hEq : (J (35 + v) n + J (39 + v) n) + sL (fun o => J (47 + 9 * v + n) o) 9 = (if n = v then 1000000 else 0 : Int64) + sL (fun i => J (47 + 9 * v + i) n) 9 := by
      have h5 := hv.2.1 v n hv4 (by omega)
      unfold K9 soJ siJ at h5
      rw [← h5]
      grind
    refine lv_iload hx hb dL_asks_12 (lv_at hl 0 rfl) ?_
    refine lv_bipush (v := 9) hx hb dL_asks_14 (by decide) ?_
    refine lv_icmp_ge (tgt := 145) hx hb dL_asks_16 (by decide) (fun cc => ?_) (fun cc => ?_)
    · have qcc : 9 ≤ n := (wn_le (a := 9) (b := n) rfl rfl (by omega) (by omega)).mp cc
      exact absurd qcc (by omega)
    · have qcc : ¬ 9 ≤ n := fun z => cc ((wn_le (a := 9) (b := n) rfl rfl (by omega) (by omega)).mpr z)
      refine lv_aload_n hx hb dL_asks_19 rfl (lv_at hl 4 rfl) ?_
      refine lv_iload_n hx hb dL_asks_20 rfl (lv_at hl 2 rfl) ?_
      refine lv_iload hx hb dL_asks_21 (lv_at hl 0 rfl) ?_
      refine w_calli (va_runV (As := [.int (nI (v)), .int (nI (n))]) (rest := []) ⟨hx, hb, hml, hown, hts⟩ (c_X4_landed_ok l 102 D cA ad hi (Nat.le_refl _) I J X H.size v n (by omega) (by omega)) (cwV 2 hts gL_asks_X4_landed rfl rfl rfl (by decide +kernel) ⟨(Nat.le_of_ble_eq_true rfl), (Nat.le_of_ble_eq_true rfl)⟩) (w_preV hK hP 0 (by decide) ⟨rfl, rfl⟩ rfl) rfl rfl hl.1 rfl (lv_room (Nat.le_of_ble_eq_true rfl)) dL_asks_23 ⟨(Nat.le_of_ble_eq_true rfl), (Nat.le_of_ble_eq_true rfl)⟩) hS (fun H locs hP hS => ?_)
      refine lv_i2l (v := J (35 + v) n) hx hb dL_asks_26 (sm64 hl8) ?_
      refine lv_aload_n hx hb dL_asks_27 rfl (lv_at hl 4 rfl) ?_
      refine lv_iload_n hx hb dL_asks_28 rfl (lv_at hl 2 rfl) ?_
      refine lv_iload hx hb dL_asks_29 (lv_at hl 0 rfl) ?_
      refine w_calli (va_runV (As := [.int (nI (v)), .int (nI (n))]) (rest := [.long (J (35 + v) n)]) ⟨hx, hb, hml, hown, hts⟩ (c_X4_rest_ok l 102 D cA ad hi (Nat.le_refl _) I J X H.size v n (by omega) (by omega)) (cwV 2 hts gL_asks_X4_rest rfl rfl rfl (by decide +kernel) ⟨(Nat.le_of_ble_eq_true rfl), (Nat.le_of_ble_eq_true rfl)⟩) (w_preV hK hP 0 (by decide) ⟨rfl, rfl⟩ rfl) rfl rfl hl.1 rfl (lv_room (Nat.le_of_ble_eq_true rfl)) dL_asks_31 ⟨(Nat.le_of_ble_eq_true rfl), (Nat.le_of_ble_eq_true rfl)⟩) hS (fun H locs hP hS => ?_)
      refine lv_i2l (v := J (39 + v) n) hx hb dL_asks_34 (sm64 hr8) ?_
      refine lv_ladd hx hb dL_asks_35 ?_
      refine lv_topl (fun lr elr => ?_)
      refine lv_lstore (lv' := [(7, .long (lr)), (6, .int (nI (n))), (4, .long (sL (fun i => J (35 + v) i + J (39 + v) i) n)), (3, .int (nI (v))), (2, .int (I 0 6)), (0, .ref (ad 0))]) hx hb dL_asks_36 hl (by decide) rfl (fun ls hl => ?_)
      refine lv_iload hx hb dL_asks_38 (lv_at hl 1 rfl) ?_
      refine lv_iload_n hx hb dL_asks_40 rfl (lv_at hl 3 rfl) ?_
      refine lv_icmp_ne (tgt := 50) hx hb dL_asks_41 (by decide) (fun c41 => ?_) (fun c41 => ?_)
      · have qc41 : ¬ n = v := fun z => c41 ((wn_eq (a := n) (b := v) rfl rfl (by omega) (by omega)).mpr z)
        refine lv_lconst (v := 0) hx hb dL_asks_50 rfl ?_
        refine lv_lstore (lv' := [(9, .long (0)), (7, .long (lr)), (6, .int (nI (n))), (4, .long (sL (fun i => J (35 + v) i + J (39 + v) i) n)), (3, .int (nI (v))), (2, .int (I 0 6)), (0, .ref (ad 0))]) hx hb dL_asks_51 hl (by decide) rfl (fun ls hl => ?_)
        refine lv_lload hx hb dL_asks_53 (lv_at hl 3 rfl) ?_
        refine lv_lload hx hb dL_asks_55 (lv_at hl 1 rfl) ?_
        refine lv_ladd hx hb dL_asks_57 ?_
        refine lv_topl (fun al eal => ?_)
        refine lv_lstore (lv' := [(4, .long (al)), (9, .long (0)), (7, .long (lr)), (6, .int (nI (n))), (3, .int (nI (v))), (2, .int (I 0 6)), (0, .ref (ad 0))]) hx hb dL_asks_58 hl (by decide) rfl (fun ls hl => ?_)
        refine lv_iconst (v := 0) hx hb dL_asks_60 (by decide) ?_
        refine lv_istore (lv' := [(11, .int (0)), (4, .long (al)), (9, .long (0)), (7, .long (lr)), (6, .int (nI (n))), (3, .int (nI (v))), (2, .int (I 0 6)), (0, .ref (ad 0))]) hx hb dL_asks_61 hl (by decide) rfl (fun ls hl => ?_)
        refine lp_L_asksB hi hx hb hml hown hts hK hv hj v hv4 n (by omega) (sL (fun i => J (35 + v) i + J (39 + v) i) n + (J (35 + v) n + J (39 + v) n)) (fun H locs hP hS ls hl => ?_) 9 0 (by decide) _ _ hP hS ls (lv_cong (l := [(11, .int (0)), (9, .long (0)), (7, .long (lr)), (4, .long (al)), (6, .int (nI (n))), (3, .int (nI (v))), (2, .int (I 0 6)), (0, .ref (ad 0))]) (l' := [(11, .int (nI (0))), (9, .long ((if n = v then 1000000 else 0 : Int64) + sL (fun i => J (47 + 9 * v + i) n) 0)), (7, .long ((J (35 + v) n + J (39 + v) n) + sL (fun o => J (47 + 9 * v + n) o) 0)), (4, .long (sL (fun i => J (35 + v) i + J (39 + v) i) n + (J (35 + v) n + J (39 + v) n))), (6, .int (nI (n))), (3, .int (nI (v))), (2, .int (I 0 6)), (0, .ref (ad 0))]) (lv_sub hl [0, 2, 3, 1, 4, 5, 6, 7] rfl) (by have qd : (if n = v then (1000000 : Int64) else 0) = 0 := if_neg qc41; clear qc41; subst_vars; (simp only [sL, Int64.add_zero, qd] <;> rfl)))
        refine lv_lload hx hb dL_asks_106 (lv_at hl 1 rfl) ?_
        refine lv_lload hx hb dL_asks_108 (lv_at hl 0 rfl) ?_
        refine W.lcmp hx hb dL_asks_110 ?_
        refine lv_if_ne (tgt := 137) hx hb dL_asks_111 (by decide) (fun c111 => ?_) (fun c111 => ?_)
        · have qc111 := fun z => c111 ((lg_cmp_eq _ _).mpr z)
          exact absurd hEq qc111
        · have qc111 := (lg_cmp_eq _ _).mp c111
          refine lv_aload_n hx hb dL_asks_114 rfl (lv_at hl 6 rfl) ?_
          refine lv_iload_n hx hb dL_asks_115 rfl (lv_at hl 4 rfl) ?_
          refine lv_iload hx hb dL_asks_116 (lv_at hl 3 rfl) ?_
          refine w_calli (va_runV (As := [.int (nI (v)), .int (nI (n))]) (rest := []) ⟨hx, hb, hml, hown, hts⟩ (c_X4_rest_ok l 102 D cA ad hi (Nat.le_refl _) I J X H.size v n (by omega) (by omega)) (cwV 2 hts gL_asks_X4_rest rfl rfl rfl (by decide +kernel) ⟨(Nat.le_of_ble_eq_true rfl), (Nat.le_of_ble_eq_true rfl)⟩) (w_preV hK hP 0 (by decide) ⟨rfl, rfl⟩ rfl) rfl rfl hl.1 rfl (lv_room (Nat.le_of_ble_eq_true rfl)) dL_asks_118 ⟨(Nat.le_of_ble_eq_true rfl), (Nat.le_of_ble_eq_true rfl)⟩) hS (fun H locs hP hS => ?_)
          refine lv_iload_n hx hb dL_asks_121 rfl (lv_at hl 5 rfl) ?_
          refine lv_icmp_ge (tgt := 137) hx hb dL_asks_122 (by decide) (fun c122 => ?_) (fun c122 => ?_)
          · exact absurd c122 hR1
          · refine lv_aload_n hx hb dL_asks_125 rfl (lv_at hl 6 rfl) ?_
            refine lv_iload_n hx hb dL_asks_126 rfl (lv_at hl 4 rfl) ?_
            refine lv_iload hx hb dL_asks_127 (lv_at hl 3 rfl) ?_
            refine w_calli (va_runV (As := [.int (nI (v)), .int (nI (n))]) (rest := []) ⟨hx, hb, hml, hown, hts⟩ (c_X4_rest_ok l 102 D cA ad hi (Nat.le_refl _) I J X H.size v n (by omega) (by omega)) (cwV 2 hts gL_asks_X4_rest rfl rfl rfl (by decide +kernel) ⟨(Nat.le_of_ble_eq_true rfl), (Nat.le_of_ble_eq_true rfl)⟩) (w_preV hK hP 0 (by decide) ⟨rfl, rfl⟩ rfl) rfl rfl hl.1 rfl (lv_room (Nat.le_of_ble_eq_true rfl)) dL_asks_129 ⟨(Nat.le_of_ble_eq_true rfl), (Nat.le_of_ble_eq_true rfl)⟩) hS (fun H locs hP hS => ?_)
            refine lv_iload_n hx hb dL_asks_132 rfl (lv_at hl 5 rfl) ?_
            refine lv_ineg hx hb dL_asks_133 ?_
            refine lv_icmp_gt (tgt := 139) hx hb dL_asks_134 (by decide) (fun c134 => ?_) (fun c134 => ?_)
            · refine lv_iinc (v := nI (n + 1)) (lv' := [(6, .int (nI (n + 1))), (9, .long ((if n = v then 1000000 else 0 : Int64) + sL (fun i => J (47 + 9 * v + i) n) 9)), (7, .long ((J (35 + v) n + J (39 + v) n) + sL (fun o => J (47 + 9 * v + n) o) 9)), (4, .long (sL (fun i => J (35 + v) i + J (39 + v) i) n + (J (35 + v) n + J (39 + v) n))), (3, .int (nI (v))), (2, .int (I 0 6)), (0, .ref (ad 0))]) hx hb dL_asks_139 hl (k := 3) rfl (wn_inc rfl) (by decide) rfl (fun ls hl => ?_)
              refine lv_goto (tgt := 12) hx hb dL_asks_142 (by decide) ?_
              exact ih (n + 1) (by omega) H locs hP hS ls (lv_cong (l := [(6, .int (nI (n + 1))), (4, .long (sL (fun i => J (35 + v) i + J (39 + v) i) n + (J (35 + v) n + J (39 + v) n))), (3, .int (nI (v))), (2, .int (I 0 6)), (0, .ref (ad 0))]) (l' := [(6, .int (nI ((n + 1)))), (4, .long (sL (fun i => J (35 + v) i + J (39 + v) i) (n + 1))), (3, .int (nI (v))), (2, .int (I 0 6)), (0, .ref (ad 0))]) (lv_sub hl [0, 3, 4, 5, 6] rfl) (by subst_vars; rfl))
            · exact absurd hR2 c134
      · have qc41 : n = v := (wn_eq (a := n) (b := v) rfl rfl (by omega) (by omega)).mp c41
        refine lv_ldc2 (v := 1000000) hx hb hown (hts (.constantLong RL 57 (1000000)) (List.mem_of_getElem? (i := 1) rfl)) dL_asks_44 ?_
        refine lv_goto (tgt := 51) hx hb dL_asks_47 (by decide) ?_
        refine lv_lstore (lv' := [(9, .long (1000000)), (7, .long (lr)), (6, .int (nI (n))), (4, .long (sL (fun i => J (35 + v) i + J (39 + v) i) n)), (3, .int (nI (v))), (2, .int (I 0 6)), (0, .ref (ad 0))]) hx hb dL_asks_51 hl (by decide) rfl (fun ls hl => ?_)
        refine lv_lload hx hb dL_asks_53 (lv_at hl 3 rfl) ?_
        refine lv_lload hx hb dL_asks_55 (lv_at hl 1 rfl) ?_
        refine lv_ladd hx hb dL_asks_57 ?_
        refine lv_topl (fun al eal => ?_)
        refine lv_lstore (lv' := [(4, .long (al)), (9, .long (1000000)), (7, .long (lr)), (6, .int (nI (n))), (3, .int (nI (v))), (2, .int (I 0 6)), (0, .ref (ad 0))]) hx hb dL_asks_58 hl (by decide) rfl (fun ls hl => ?_)
        refine lv_iconst (v := 0) hx hb dL_asks_60 (by decide) ?_
        refine lv_istore (lv' := [(11, .int (0)), (4, .long (al)), (9, .long (1000000)), (7, .long (lr)), (6, .int (nI (n))), (3, .int (nI (v))), (2, .int (I 0 6)), (0, .ref (ad 0))]) hx hb dL_asks_61 hl (by decide) rfl (fun ls hl => ?_)
        refine lp_L_asksB hi hx hb hml hown hts hK hv hj v hv4 n (by omega) (sL (fun i => J (35 + v) i + J (39 + v) i) n + (J (35 + v) n + J (39 + v) n)) (fun H locs hP hS ls hl => ?_) 9 0 (by decide) _ _ hP hS ls (lv_cong (l := [(11, .int (0)), (9, .long (1000000)), (7, .long (lr)), (4, .long (al)), (6, .int (nI (n))), (3, .int (nI (v))), (2, .int (I 0 6)), (0, .ref (ad 0))]) (l' := [(11, .int (nI (0))), (9, .long ((if n = v then 1000000 else 0 : Int64) + sL (fun i => J (47 + 9 * v + i) n) 0)), (7, .long ((J (35 + v) n + J (39 + v) n) + sL (fun o => J (47 + 9 * v + n) o) 0)), (4, .long (sL (fun i => J (35 + v) i + J (39 + v) i) n + (J (35 + v) n + J (39 + v) n))), (6, .int (nI (n))), (3, .int (nI (v))), (2, .int (I 0 6)), (0, .ref (ad 0))]) (lv_sub hl [0, 2, 3, 1, 4, 5, 6, 7] rfl) (by have qd : (if n = v then (1000000 : Int64) else 0) = 1000000 := if_pos qc41; clear qc41; subst_vars; (simp only [sL, Int64.add_zero, qd] <;> rfl)))
        refine lv_lload hx hb dL_asks_106 (lv_at hl 1 rfl) ?_
        refine lv_lload hx hb dL_asks_108 (lv_at hl 0 rfl) ?_
        refine W.lcmp hx hb dL_asks_110 ?_
        refine lv_if_ne (tgt := 137) hx hb dL_asks_111 (by decide) (fun c111 => ?_) (fun c111 => ?_)
        · have qc111 := fun z => c111 ((lg_cmp_eq _ _).mpr z)
          exact absurd hEq qc111
        · have qc111 := (lg_cmp_eq _ _).mp c111
          refine lv_aload_n hx hb dL_asks_114 rfl (lv_at hl 6 rfl) ?_
          refine lv_iload_n hx hb dL_asks_115 rfl (lv_at hl 4 rfl) ?_
          refine lv_iload hx hb dL_asks_116 (lv_at hl 3 rfl) ?_
          refine w_calli (va_runV (As := [.int (nI (v)), .int (nI (n))]) (rest := []) ⟨hx, hb, hml, hown, hts⟩ (c_X4_rest_ok l 102 D cA ad hi (Nat.le_refl _) I J X H.size v n (by omega) (by omega)) (cwV 2 hts gL_asks_X4_rest rfl rfl rfl (by decide +kernel) ⟨(Nat.le_of_ble_eq_true rfl), (Nat.le_of_ble_eq_true rfl)⟩) (w_preV hK hP 0 (by decide) ⟨rfl, rfl⟩ rfl) rfl rfl hl.1 rfl (lv_room (Nat.le_of_ble_eq_true rfl)) dL_asks_118 ⟨(Nat.le_of_ble_eq_true rfl), (Nat.le_of_ble_eq_true rfl)⟩) hS (fun H locs hP hS => ?_)
          refine lv_iload_n hx hb dL_asks_121 rfl (lv_at hl 5 rfl) ?_
          refine lv_icmp_ge (tgt := 137) hx hb dL_asks_122 (by decide) (fun c122 => ?_) (fun c122 => ?_)
          · exact absurd c122 hR1
          · refine lv_aload_n hx hb dL_asks_125 rfl (lv_at hl 6 rfl) ?_
            refine lv_iload_n hx hb dL_asks_126 rfl (lv_at hl 4 rfl) ?_
            refine lv_iload hx hb dL_asks_127 (lv_at hl 3 rfl) ?_
            refine w_calli (va_runV (As := [.int (nI (v)), .int (nI (n))]) (rest := []) ⟨hx, hb, hml, hown, hts⟩ (c_X4_rest_ok l 102 D cA ad hi (Nat.le_refl _) I J X H.size v n (by omega) (by omega)) (cwV 2 hts gL_asks_X4_rest rfl rfl rfl (by decide +kernel) ⟨(Nat.le_of_ble_eq_true rfl), (Nat.le_of_ble_eq_true rfl)⟩) (w_preV hK hP 0 (by decide) ⟨rfl, rfl⟩ rfl) rfl rfl hl.1 rfl (lv_room (Nat.le_of_ble_eq_true rfl)) dL_asks_129 ⟨(Nat.le_of_ble_eq_true rfl), (Nat.le_of_ble_eq_true rfl)⟩) hS (fun H locs hP hS => ?_)
            refine lv_iload_n hx hb dL_asks_132 rfl (lv_at hl 5 rfl) ?_
            refine lv_ineg hx hb dL_asks_133 ?_
            refine lv_icmp_gt (tgt := 139) hx hb dL_asks_134 (by decide) (fun c134 => ?_) (fun c134 => ?_)
            · refine lv_iinc (v := nI (n + 1)) (lv' := [(6, .int (nI (n + 1))), (9, .long ((if n = v then 1000000 else 0 : Int64) + sL (fun i => J (47 + 9 * v + i) n) 9)), (7, .long ((J (35 + v) n + J (39 + v) n) + sL (fun o => J (47 + 9 * v + n) o) 9)), (4, .long (sL (fun i => J (35 + v) i + J (39 + v) i) n + (J (35 + v) n + J (39 + v) n))), (3, .int (nI (v))), (2, .int (I 0 6)), (0, .ref (ad 0))]) hx hb dL_asks_139 hl (k := 3) rfl (wn_inc rfl) (by decide) rfl (fun ls hl => ?_)
              refine lv_goto (tgt := 12) hx hb dL_asks_142 (by decide) ?_
              exact ih (n + 1) (by omega) H locs hP hS ls (lv_cong (l := [(6, .int (nI (n + 1))), (4, .long (sL (fun i => J (35 + v) i + J (39 + v) i) n + (J (35 + v) n + J (39 + v) n))), (3, .int (nI (v))), (2, .int (I 0 6)), (0, .ref (ad 0))]) (l' := [(6, .int (nI ((n + 1)))), (4, .long (sL (fun i => J (35 + v) i + J (39 + v) i) (n + 1))), (3, .int (nI (v))), (2, .int (I 0 6)), (0, .ref (ad 0))]) (lv_sub hl [0, 3, 4, 5, 6] rfl) (by subst_vars; rfl))
            · exact absurd hR2 c134

set_option maxHeartbeats 4000000 in
set_option maxRecDepth 100000 in
theorem c_L_asks (l : Launch) (D : va_G) (cA : Nat → ClassId) (ad : Nat → Nat) (hi : inj 102 ad) {j : Nat} {I : SI} {J : SJ} {X : SX} (hv : Inv3 j I J X) (hj : j < 26) (y : Int32) (sz : Nat) : Met l yL_asks wsL_asks ({ frames := 5, cells := 0, slots := 0, locals := 200 }) (va_Pc [.ref (ad 0), .int y, .int (I 0 6)] (wPre 102 D cA ad I J X sz)) (qI 102 D cA ad sz 1 I J X) 0 0 (fr 102 ad sz) := by
  refine Met.ofW (cc := cL_asks) (maxL := 12) (ret := (some .boolean)) (by decide) rfl ?_
  intro p e s m args below meth c s₁ B hml hv0
  obtain ⟨rfl, rfl, hP, hK⟩ := hv0
  have hx := B.exec
  have hb := B.bytes
  have hr := B.returns
  have hts := atoms_spec (ws := wsL_asks) B.pre
  have hown : s.vm.findClass RL = some m.cls := findClass_of_methodNamed B.named
  have hlocks := B.notSynchronized
  have hS : va_S (fr 102 ad s.heap.size) s.heap s.heap [] := va_S.rf
  have hA : ∀ k, k < 102 → fr 102 ad s.heap.size (ad k) := fr_ad
  have hl := lv_entry ([.ref (ad 0), .int y, .int (I 0 6)]) (n := 12) (Nat.le_of_ble_eq_true rfl)
  rw [lg_entry_eq]
  generalize (lg_sl ([.ref (ad 0), .int y, .int (I 0 6)]) ++ List.replicate (12 - (lg_sl ([.ref (ad 0), .int y, .int (I 0 6)])).length) Slot.unset).toArray = ls at hl ⊢
  have hl : lv_has ls 12 [(0, .ref (ad 0)), (1, .int y), (2, .int (I 0 6))] := hl
  have hv4 : lowN y 4 < 4 := lowN_lt (by decide)
  have hAll := all_cons hv.2.1 hv4
  refine lv_iload_n hx hb dL_asks_0 rfl (lv_at hl 1 rfl) ?_
  refine lv_iconst (v := 4) hx hb dL_asks_1 (by decide) ?_
  refine w_calli (va_runS (As := [.int (y), .int (4)]) (rest := []) ⟨hx, hb, hml, hown, hts⟩ (c_L_low l 102 D cA ad hi (Nat.le_refl _) I J X s.heap.size (y) 4 ⟨by decide, by decide⟩) (va_cwS 2 hts gL_asks_L_low rfl rfl rfl (by decide +kernel) ⟨(Nat.le_of_ble_eq_true rfl), (Nat.le_of_ble_eq_true rfl)⟩) (w_preS hK hP) rfl rfl hl.1 rfl (lv_room (Nat.le_of_ble_eq_true rfl)) dL_asks_2 ⟨(Nat.le_of_ble_eq_true rfl), (Nat.le_of_ble_eq_true rfl)⟩) hS (fun H locs hP hS => ?_)
  refine lv_istore_n (lv' := [(3, .int (nI (lowN y 4))), (0, .ref (ad 0)), (1, .int (y)), (2, .int (I 0 6))]) hx hb dL_asks_5 rfl hl (by decide) rfl (fun ls hl => ?_)
  refine lv_lconst (v := 0) hx hb dL_asks_6 rfl ?_
  refine lv_lstore (lv' := [(4, .long (0)), (3, .int (nI (lowN y 4))), (0, .ref (ad 0)), (1, .int (y)), (2, .int (I 0 6))]) hx hb dL_asks_7 hl (by decide) rfl (fun ls hl => ?_)
  refine lv_iconst (v := 0) hx hb dL_asks_9 (by decide) ?_
  refine lv_istore (lv' := [(6, .int (0)), (4, .long (0)), (3, .int (nI (lowN y 4))), (0, .ref (ad 0)), (1, .int (y)), (2, .int (I 0 6))]) hx hb dL_asks_10 hl (by decide) rfl (fun ls hl => ?_)
  refine lp_L_asksA hi hx hb hml hown hts hK hv hj (lowN y 4) hv4 (fun H locs hP hS ls hl => ?_) 9 0 (by decide) _ _ hP hS ls (lv_cong (l := [(6, .int (0)), (4, .long (0)), (3, .int (nI (lowN y 4))), (2, .int (I 0 6)), (0, .ref (ad 0))]) (l' := [(6, .int (nI (0))), (4, .long (sL (fun i => J (35 + lowN y 4) i + J (39 + lowN y 4) i) 0)), (3, .int (nI (lowN y 4))), (2, .int (I 0 6)), (0, .ref (ad 0))]) (lv_sub hl [0, 1, 2, 5, 3] rfl) (by subst_vars; rfl))
  refine lv_lload hx hb dL_asks_145 (lv_at hl 0 rfl) ?_
  refine lv_ldc2 (v := 1000000) hx hb hown (hts (.constantLong RL 57 (1000000)) (List.mem_of_getElem? (i := 1) rfl)) dL_asks_147 ?_
  refine W.lcmp hx hb dL_asks_150 ?_
  refine lv_if_ne (tgt := 158) hx hb dL_asks_151 (by decide) (fun c151 => ?_) (fun c151 => ?_)
  · have qc151 := fun z => c151 ((lg_cmp_eq _ _).mpr z)
    exact absurd hAll qc151
  · have qc151 := (lg_cmp_eq _ _).mp c151
    refine lv_iconst (v := 1) hx hb dL_asks_154 (by decide) ?_
    refine lv_goto (tgt := 159) hx hb dL_asks_155 (by decide) ?_
    exact w_zret hx hb hr rfl hlocks hK hP hS ⟨by subst_vars; rfl, by subst_vars; rfl, by subst_vars; rfl, by subst_vars; rfl⟩ dL_asks_159
