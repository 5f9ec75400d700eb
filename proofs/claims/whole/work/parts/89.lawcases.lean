/-! the law's cases -/
theorem w_preVA {s : State} {H : Heap} {locs : List Loc} {D : va_G} {cA : Nat → ClassId} {ad K V : Nat → Nat} {tO tT : Nat} {I : SI} {J : SJ} {X : SX} {As : List Value} (hK : WK D cA s) (hP : WP 116 D cA ad I J X H) (hX : XA ad K V tO tT s.heap.size s) (hS : va_S (fr 116 ad s.heap.size) s.heap H locs) (k : Nat) (hkN : k < 116) {ci : Nat} {q : vw_C} (hk : kd k = 0 ∧ ob k = ci) (hq : vwCl[ci]? = some q) : PreV s H q.1 (ad k) (va_Pc (.ref (ad k) :: As) (wPreA D cA ad K V tO tT I J X H.size)) As := ⟨wPreA_blind, va_recv hK hP hq ((wld_at hkN).trans (by rw [ent_o hk.1, hk.2])), fun U hU hW => ⟨rfl, ⟨by rw [hU], by rw [hU]; exact hP, va_K.moved hW.alike hK⟩, hX.go hS hU hW⟩⟩
section LSLD
variable {p : Program} {l : Launch} {e : Env} {R : Room} {s : State} {m : MethodId} {args : Array Value} {below : List Frame} {meth : Method} {c : Code} {H : Heap} {locs : List Loc} {cells slots : Nat} {Q : State → Prop} {cc : ByteArray} {pc : Nat} {ls : Array Slot} {rest : List Value} {A : Nat → Prop}
theorem lw_sld (hexec : p.tables.exec = Jvm.exec) (hb : c.code = cc) {b L : Nat} {xs : Nat → Int32} (hX : va_X b L xs s s.heap) (hbl : b < s.heap.size) (hbA : ¬ A b) (hS : va_S A s.heap H locs) (hL : L ≤ 2560) {n : Nat} (hn : n < L) {i : Int32} (hi : i = nI n) (hdg : decode cc pc = .ok (.iaload, 1))
    (kk : W p l e R s m args below meth c H locs cells slots Q (F0 m (pc + 1) ls (.int (xs n) :: rest))) : W p l e R s m args below meth c H locs cells slots Q (F0 m pc ls (.int i :: .ref b :: rest)) := by
  subst hi
  refine va_sld hexec hb hX hbl hbA hS (vp_in_nI hn (by omega)) hdg ?_
  rw [nI_clamp (by omega)]
  exact kk
end LSLD

set_option maxHeartbeats 800000 in
set_option maxRecDepth 100000 in
theorem law_c0 {p : Program} {e : Env} {s : State} {m : MethodId} {below : List Frame} {meth : Method} {c : Code} (l : Launch) (hst : l.stackTraces = false) {b L : Nat} {xs : Nat → Int32} (hL : L ≤ 2560) (hx : p.tables.exec = Jvm.exec) (hb : c.code = cL_law) (hml : c.maxLocals = 9) (hown : s.vm.findClass RL = some m.cls) (hts : ∀ w ∈ wsL_law, w.before #[Value.ref b] s = true) (hXs : va_X b L xs s s.heap) (hbl : b < s.heap.size) {D : va_G} {cA : Nat → ClassId} {ad K V : Nat → Nat} {tO tT : Nat} (hi : inj 116 ad) (hbA : ¬ fr 116 ad s.heap.size b) (hK : WK D cA s) (hXA : XA ad K V tO tT s.heap.size s) {j : Nat} (hj : j < 513) {I : SI} {J : SJ} {X : SX} (hv : Inv2 j I J X) {t : Nat} (ht : 5 * t + 5 ≤ L) {H : Heap} {locs : List Loc} {cells slots : Nat} {Q : State → Prop} (hce : cells + 1 ≤ 601024) (hsl : slots + 6 ≤ 7293034) (hP : WP 116 D cA ad I J X H) (hS : va_S (fr 116 ad s.heap.size) s.heap H locs)
  (kx : ∀ (j' : Nat) (I : SI) (J : SJ) (X : SX) (H : Heap) (locs : List Loc) (ls : Array Slot), j' ≤ j + 1 → Inv2 j' I J X → WP 116 D cA ad I J X H → va_S (fr 116 ad s.heap.size) s.heap H locs → lv_has ls 9 [(5, .int (nI (5 * t))), (4, .ref (ad 115)), (3, .ref (ad 114)), (2, .ref (ad 102)), (1, .ref (ad 0)), (0, .ref b)] → W p l e room_1 s m #[Value.ref b] below meth c H locs (cells + 1) (slots + 6) Q (F0 m 947 ls []))
  {ls : Array Slot} (hl : lv_has ls 9 [(5, .int (nI (5 * t))), (4, .ref (ad 115)), (3, .ref (ad 114)), (2, .ref (ad 102)), (1, .ref (ad 0)), (0, .ref b)]) : W p l e room_1 s m #[Value.ref b] below meth c H locs cells slots Q (F0 m 112 ls []) := by
  obtain ⟨k, v, I1, J1, X1, I2, J2, X2, f, o, j9, hf, ho, hj9, hH, hM, h14, hcmp, hv2⟩ := pk_loan l hst D cA ad K V tO tT hi hj hv (xs (5 * t + 1)) (xs (5 * t + 2)) (xs (5 * t + 3))
  refine lv_aload_n hx hb dL_law_112 rfl (lv_at hl 4 rfl) ?_
  refine lv_aload_n hx hb dL_law_113 rfl (lv_at hl 5 rfl) ?_
  refine lv_iload hx hb dL_law_114 (lv_at hl 0 rfl) ?_
  refine lv_iconst (v := 1) hx hb dL_law_116 (by decide) ?_
  refine w_iaddN (a := 5 * t) (b := 1) hx hb rfl rfl dL_law_117 ?_
  refine lw_sld hx hb hXs hbl hbA hS hL (n := 5 * t + 1) (by omega) rfl dL_law_118 ?_
  refine lv_aload_n hx hb dL_law_119 rfl (lv_at hl 5 rfl) ?_
  refine lv_iload hx hb dL_law_120 (lv_at hl 0 rfl) ?_
  refine lv_iconst (v := 2) hx hb dL_law_122 (by decide) ?_
  refine w_iaddN (a := 5 * t) (b := 2) hx hb rfl rfl dL_law_123 ?_
  refine lw_sld hx hb hXs hbl hbA hS hL (n := 5 * t + 2) (by omega) rfl dL_law_124 ?_
  refine lv_aload_n hx hb dL_law_125 rfl (lv_at hl 5 rfl) ?_
  refine lv_iload hx hb dL_law_126 (lv_at hl 0 rfl) ?_
  refine lv_iconst (v := 3) hx hb dL_law_128 (by decide) ?_
  refine w_iaddN (a := 5 * t) (b := 3) hx hb rfl rfl dL_law_129 ?_
  refine lw_sld hx hb hXs hbl hbA hS hL (n := 5 * t + 3) (by omega) rfl dL_law_130 ?_
  refine lv_aload_n hx hb dL_law_131 rfl (lv_at hl 2 rfl) ?_
  refine w_calli (vx_runSW (As := [.ref (ad 0), .int (xs (5 * t + 1)), .int (xs (5 * t + 2)), .int (xs (5 * t + 3)), .ref (ad 114)]) (rest := []) ⟨hx, hb, hml, hown, hts⟩ (hH H.size) (vx_cwSW 5 hts gL_law_L_loan rfl rfl rfl (by decide +kernel) ⟨(Nat.le_of_ble_eq_true rfl), (Nat.le_of_ble_eq_true rfl)⟩) (w_preSA hK hP hXA hS) rfl rfl hl.1 rfl (lv_room (Nat.le_of_ble_eq_true rfl)) dL_law_132 ⟨by show cells + 1 ≤ 601024; omega, by show slots + 6 ≤ 7293034; omega⟩) hS (fun H locs hP hS => ?_)
  refine lv_istore (lv' := [(6, .int k), (5, .int (nI (5 * t))), (4, .ref (ad 115)), (3, .ref (ad 114)), (2, .ref (ad 102)), (1, .ref (ad 0)), (0, .ref b)]) hx hb dL_law_135 hl (by decide) rfl (fun ls hl => ?_)
  refine lv_aload_n hx hb dL_law_137 rfl (lv_at hl 4 rfl) ?_
  refine lv_aload_n hx hb dL_law_138 rfl (lv_at hl 6 rfl) ?_
  refine lv_iload hx hb dL_law_139 (lv_at hl 1 rfl) ?_
  refine lv_iconst (v := 1) hx hb dL_law_141 (by decide) ?_
  refine w_iaddN (a := 5 * t) (b := 1) hx hb rfl rfl dL_law_142 ?_
  refine lw_sld hx hb hXs hbl hbA hS hL (n := 5 * t + 1) (by omega) rfl dL_law_143 ?_
  refine lv_aload_n hx hb dL_law_144 rfl (lv_at hl 6 rfl) ?_
  refine lv_iload hx hb dL_law_145 (lv_at hl 1 rfl) ?_
  refine lv_iconst (v := 2) hx hb dL_law_147 (by decide) ?_
  refine w_iaddN (a := 5 * t) (b := 2) hx hb rfl rfl dL_law_148 ?_
  refine lw_sld hx hb hXs hbl hbA hS hL (n := 5 * t + 2) (by omega) rfl dL_law_149 ?_
  refine lv_aload_n hx hb dL_law_150 rfl (lv_at hl 6 rfl) ?_
  refine lv_iload hx hb dL_law_151 (lv_at hl 1 rfl) ?_
  refine lv_iconst (v := 3) hx hb dL_law_153 (by decide) ?_
  refine w_iaddN (a := 5 * t) (b := 3) hx hb rfl rfl dL_law_154 ?_
  refine lw_sld hx hb hXs hbl hbA hS hL (n := 5 * t + 3) (by omega) rfl dL_law_155 ?_
  refine w_calli (va_runV (As := [.int (xs (5 * t + 1)), .int (xs (5 * t + 2)), .int (xs (5 * t + 3))]) (rest := []) ⟨hx, hb, hml, hown, hts⟩ (hM H.size) (cwV 3 hts gL_law_X5_loan rfl rfl rfl (by decide +kernel) ⟨by show f + 1 ≤ 2048; omega, by show 8 + (5 + 11) + o ≤ 84000; omega⟩) (w_preVA hK hP hXA hS 102 (by decide) ⟨rfl, rfl⟩ rfl) rfl rfl hl.1 rfl (lv_room (Nat.le_of_ble_eq_true rfl)) dL_law_156 ⟨by show cells + 1 + 0 ≤ 601024; omega, by show slots + 6 + 0 ≤ 7293034; omega⟩) hS (fun H locs hP hS => ?_)
  refine lv_istore (lv' := [(7, .int v), (6, .int k), (5, .int (nI (5 * t))), (4, .ref (ad 115)), (3, .ref (ad 114)), (2, .ref (ad 102)), (1, .ref (ad 0)), (0, .ref b)]) hx hb dL_law_159 hl (by decide) rfl (fun ls hl => ?_)
  refine lv_aload_n hx hb dL_law_161 rfl (lv_at hl 5 rfl) ?_
  refine w_calli (va_runV (As := []) (rest := []) ⟨hx, hb, hml, hown, hts⟩ (c_X5_thrown l 116 D cA ad hi (by decide) I2 J2 X2 H.size) (cwV 0 hts gL_law_X5_thrown rfl rfl rfl (by decide +kernel) ⟨(Nat.le_of_ble_eq_true rfl), (Nat.le_of_ble_eq_true rfl)⟩) (w_preV hK hP 102 (by decide) ⟨rfl, rfl⟩ rfl) rfl rfl hl.1 rfl (lv_room (Nat.le_of_ble_eq_true rfl)) dL_law_162 ⟨by show cells + 1 + 0 + 0 ≤ 601024; omega, by show slots + 6 + 0 + 0 ≤ 7293034; omega⟩) hS (fun H locs hP hS => ?_)
  rw [h14]
  refine lv_iload hx hb dL_law_165 (lv_at hl 1 rfl) ?_
  refine lv_icmp_eq (tgt := 172) hx hb dL_law_167 (by decide) (fun _ => ?_) (fun z => absurd rfl z)
  refine lv_iload hx hb dL_law_172 (lv_at hl 1 rfl) ?_
  refine lv_if_ne (tgt := 189) hx hb dL_law_174 (by decide) (fun _ => ?_) (fun hk0 => ?_)
  · skip
    refine lv_goto (tgt := 947) hx hb dL_law_189 (by decide) ?_
    exact kx j9 _ _ _ _ _ _ hj9 hv2 hP hS (lv_sub hl [2, 3, 4, 5, 6, 7] rfl)
  · skip
    refine lv_aload_n hx hb dL_law_177 rfl (lv_at hl 4 rfl) ?_
    refine lv_iconst (v := 0) hx hb dL_law_178 (by decide) ?_
    refine w_lald hx hb hK hP 114 0 ⟨rfl, by decide⟩ (by decide) rfl dL_law_179 ?_
    refine lv_iload hx hb dL_law_180 (lv_at hl 0 rfl) ?_
    refine lv_i2l (v := v.toInt64) hx hb dL_law_182 rfl ?_
    refine W.lcmp hx hb dL_law_183 ?_
    refine lv_if_eq (tgt := 189) hx hb dL_law_184 (by decide) (fun _ => ?_) (fun z => absurd ((lg_cmp_eq _ _).mpr (hcmp hk0)) z)
    refine lv_goto (tgt := 947) hx hb dL_law_189 (by decide) ?_
    exact kx j9 _ _ _ _ _ _ hj9 hv2 hP hS (lv_sub hl [2, 3, 4, 5, 6, 7] rfl)

set_option maxHeartbeats 800000 in
set_option maxRecDepth 100000 in
theorem law_c1 {p : Program} {e : Env} {s : State} {m : MethodId} {below : List Frame} {meth : Method} {c : Code} (l : Launch) (hst : l.stackTraces = false) {b L : Nat} {xs : Nat → Int32} (hL : L ≤ 2560) (hx : p.tables.exec = Jvm.exec) (hb : c.code = cL_law) (hml : c.maxLocals = 9) (hown : s.vm.findClass RL = some m.cls) (hts : ∀ w ∈ wsL_law, w.before #[Value.ref b] s = true) (hXs : va_X b L xs s s.heap) (hbl : b < s.heap.size) {D : va_G} {cA : Nat → ClassId} {ad K V : Nat → Nat} {tO tT : Nat} (hi : inj 116 ad) (hbA : ¬ fr 116 ad s.heap.size b) (hK : WK D cA s) (hXA : XA ad K V tO tT s.heap.size s) {j : Nat} (hj : j < 513) {I : SI} {J : SJ} {X : SX} (hv : Inv2 j I J X) {t : Nat} (ht : 5 * t + 5 ≤ L) {H : Heap} {locs : List Loc} {cells slots : Nat} {Q : State → Prop} (hce : cells + 1 ≤ 601024) (hsl : slots + 6 ≤ 7293034) (hP : WP 116 D cA ad I J X H) (hS : va_S (fr 116 ad s.heap.size) s.heap H locs)
  (kx : ∀ (j' : Nat) (I : SI) (J : SJ) (X : SX) (H : Heap) (locs : List Loc) (ls : Array Slot), j' ≤ j + 1 → Inv2 j' I J X → WP 116 D cA ad I J X H → va_S (fr 116 ad s.heap.size) s.heap H locs → lv_has ls 9 [(5, .int (nI (5 * t))), (4, .ref (ad 115)), (3, .ref (ad 114)), (2, .ref (ad 102)), (1, .ref (ad 0)), (0, .ref b)] → W p l e room_1 s m #[Value.ref b] below meth c H locs (cells + 1) (slots + 6) Q (F0 m 947 ls []))
  {ls : Array Slot} (hl : lv_has ls 9 [(5, .int (nI (5 * t))), (4, .ref (ad 115)), (3, .ref (ad 114)), (2, .ref (ad 102)), (1, .ref (ad 0)), (0, .ref b)]) : W p l e room_1 s m #[Value.ref b] below meth c H locs cells slots Q (F0 m 192 ls []) := by
  obtain ⟨k, v, I1, J1, X1, I2, J2, X2, f, o, j9, hf, ho, hj9, hH, hM, h14, hcmp, hv2⟩ := pk_strike l hst D cA ad K V tO tT hi hj hv (xs (5 * t + 1)) (xs (5 * t + 2))
  refine lv_aload_n hx hb dL_law_192 rfl (lv_at hl 4 rfl) ?_
  refine lv_aload_n hx hb dL_law_193 rfl (lv_at hl 5 rfl) ?_
  refine lv_iload hx hb dL_law_194 (lv_at hl 0 rfl) ?_
  refine lv_iconst (v := 1) hx hb dL_law_196 (by decide) ?_
  refine w_iaddN (a := 5 * t) (b := 1) hx hb rfl rfl dL_law_197 ?_
  refine lw_sld hx hb hXs hbl hbA hS hL (n := 5 * t + 1) (by omega) rfl dL_law_198 ?_
  refine lv_aload_n hx hb dL_law_199 rfl (lv_at hl 5 rfl) ?_
  refine lv_iload hx hb dL_law_200 (lv_at hl 0 rfl) ?_
  refine lv_iconst (v := 2) hx hb dL_law_202 (by decide) ?_
  refine w_iaddN (a := 5 * t) (b := 2) hx hb rfl rfl dL_law_203 ?_
  refine lw_sld hx hb hXs hbl hbA hS hL (n := 5 * t + 2) (by omega) rfl dL_law_204 ?_
  refine lv_aload_n hx hb dL_law_205 rfl (lv_at hl 2 rfl) ?_
  refine w_calli (vx_runSW (As := [.ref (ad 0), .int (xs (5 * t + 1)), .int (xs (5 * t + 2)), .ref (ad 114)]) (rest := []) ⟨hx, hb, hml, hown, hts⟩ (hH H.size) (vx_cwSW 4 hts gL_law_L_strike rfl rfl rfl (by decide +kernel) ⟨(Nat.le_of_ble_eq_true rfl), (Nat.le_of_ble_eq_true rfl)⟩) (w_preSA hK hP hXA hS) rfl rfl hl.1 rfl (lv_room (Nat.le_of_ble_eq_true rfl)) dL_law_206 ⟨by show cells + 1 ≤ 601024; omega, by show slots + 6 ≤ 7293034; omega⟩) hS (fun H locs hP hS => ?_)
  refine lv_istore (lv' := [(6, .int k), (5, .int (nI (5 * t))), (4, .ref (ad 115)), (3, .ref (ad 114)), (2, .ref (ad 102)), (1, .ref (ad 0)), (0, .ref b)]) hx hb dL_law_209 hl (by decide) rfl (fun ls hl => ?_)
  refine lv_aload_n hx hb dL_law_211 rfl (lv_at hl 4 rfl) ?_
  refine lv_aload_n hx hb dL_law_212 rfl (lv_at hl 6 rfl) ?_
  refine lv_iload hx hb dL_law_213 (lv_at hl 1 rfl) ?_
  refine lv_iconst (v := 1) hx hb dL_law_215 (by decide) ?_
  refine w_iaddN (a := 5 * t) (b := 1) hx hb rfl rfl dL_law_216 ?_
  refine lw_sld hx hb hXs hbl hbA hS hL (n := 5 * t + 1) (by omega) rfl dL_law_217 ?_
  refine lv_aload_n hx hb dL_law_218 rfl (lv_at hl 6 rfl) ?_
  refine lv_iload hx hb dL_law_219 (lv_at hl 1 rfl) ?_
  refine lv_iconst (v := 2) hx hb dL_law_221 (by decide) ?_
  refine w_iaddN (a := 5 * t) (b := 2) hx hb rfl rfl dL_law_222 ?_
  refine lw_sld hx hb hXs hbl hbA hS hL (n := 5 * t + 2) (by omega) rfl dL_law_223 ?_
  refine w_calli (va_runV (As := [.int (xs (5 * t + 1)), .int (xs (5 * t + 2))]) (rest := []) ⟨hx, hb, hml, hown, hts⟩ (hM H.size) (cwV 2 hts gL_law_X5_strike rfl rfl rfl (by decide +kernel) ⟨by show f + 1 ≤ 2048; omega, by show 8 + (5 + 11) + o ≤ 84000; omega⟩) (w_preVA hK hP hXA hS 102 (by decide) ⟨rfl, rfl⟩ rfl) rfl rfl hl.1 rfl (lv_room (Nat.le_of_ble_eq_true rfl)) dL_law_224 ⟨by show cells + 1 + 0 ≤ 601024; omega, by show slots + 6 + 0 ≤ 7293034; omega⟩) hS (fun H locs hP hS => ?_)
  refine lv_istore (lv' := [(7, .int v), (6, .int k), (5, .int (nI (5 * t))), (4, .ref (ad 115)), (3, .ref (ad 114)), (2, .ref (ad 102)), (1, .ref (ad 0)), (0, .ref b)]) hx hb dL_law_227 hl (by decide) rfl (fun ls hl => ?_)
  refine lv_aload_n hx hb dL_law_229 rfl (lv_at hl 5 rfl) ?_
  refine w_calli (va_runV (As := []) (rest := []) ⟨hx, hb, hml, hown, hts⟩ (c_X5_thrown l 116 D cA ad hi (by decide) I2 J2 X2 H.size) (cwV 0 hts gL_law_X5_thrown rfl rfl rfl (by decide +kernel) ⟨(Nat.le_of_ble_eq_true rfl), (Nat.le_of_ble_eq_true rfl)⟩) (w_preV hK hP 102 (by decide) ⟨rfl, rfl⟩ rfl) rfl rfl hl.1 rfl (lv_room (Nat.le_of_ble_eq_true rfl)) dL_law_230 ⟨by show cells + 1 + 0 + 0 ≤ 601024; omega, by show slots + 6 + 0 + 0 ≤ 7293034; omega⟩) hS (fun H locs hP hS => ?_)
  rw [h14]
  refine lv_iload hx hb dL_law_233 (lv_at hl 1 rfl) ?_
  refine lv_icmp_eq (tgt := 240) hx hb dL_law_235 (by decide) (fun _ => ?_) (fun z => absurd rfl z)
  refine lv_iload hx hb dL_law_240 (lv_at hl 1 rfl) ?_
  refine lv_if_ne (tgt := 257) hx hb dL_law_242 (by decide) (fun _ => ?_) (fun hk0 => ?_)
  · skip
    refine lv_goto (tgt := 947) hx hb dL_law_257 (by decide) ?_
    exact kx j9 _ _ _ _ _ _ hj9 hv2 hP hS (lv_sub hl [2, 3, 4, 5, 6, 7] rfl)
  · skip
    refine lv_aload_n hx hb dL_law_245 rfl (lv_at hl 4 rfl) ?_
    refine lv_iconst (v := 0) hx hb dL_law_246 (by decide) ?_
    refine w_lald hx hb hK hP 114 0 ⟨rfl, by decide⟩ (by decide) rfl dL_law_247 ?_
    refine lv_iload hx hb dL_law_248 (lv_at hl 0 rfl) ?_
    refine lv_i2l (v := v.toInt64) hx hb dL_law_250 rfl ?_
    refine W.lcmp hx hb dL_law_251 ?_
    refine lv_if_eq (tgt := 257) hx hb dL_law_252 (by decide) (fun _ => ?_) (fun z => absurd ((lg_cmp_eq _ _).mpr (hcmp hk0)) z)
    refine lv_goto (tgt := 947) hx hb dL_law_257 (by decide) ?_
    exact kx j9 _ _ _ _ _ _ hj9 hv2 hP hS (lv_sub hl [2, 3, 4, 5, 6, 7] rfl)

set_option maxHeartbeats 800000 in
set_option maxRecDepth 100000 in
theorem law_c2 {p : Program} {e : Env} {s : State} {m : MethodId} {below : List Frame} {meth : Method} {c : Code} (l : Launch) (hst : l.stackTraces = false) {b L : Nat} {xs : Nat → Int32} (hL : L ≤ 2560) (hx : p.tables.exec = Jvm.exec) (hb : c.code = cL_law) (hml : c.maxLocals = 9) (hown : s.vm.findClass RL = some m.cls) (hts : ∀ w ∈ wsL_law, w.before #[Value.ref b] s = true) (hXs : va_X b L xs s s.heap) (hbl : b < s.heap.size) {D : va_G} {cA : Nat → ClassId} {ad K V : Nat → Nat} {tO tT : Nat} (hi : inj 116 ad) (hbA : ¬ fr 116 ad s.heap.size b) (hK : WK D cA s) (hXA : XA ad K V tO tT s.heap.size s) {j : Nat} (hj : j < 513) {I : SI} {J : SJ} {X : SX} (hv : Inv2 j I J X) {t : Nat} (ht : 5 * t + 5 ≤ L) {H : Heap} {locs : List Loc} {cells slots : Nat} {Q : State → Prop} (hce : cells + 1 ≤ 601024) (hsl : slots + 6 ≤ 7293034) (hP : WP 116 D cA ad I J X H) (hS : va_S (fr 116 ad s.heap.size) s.heap H locs)
  (kx : ∀ (j' : Nat) (I : SI) (J : SJ) (X : SX) (H : Heap) (locs : List Loc) (ls : Array Slot), j' ≤ j + 1 → Inv2 j' I J X → WP 116 D cA ad I J X H → va_S (fr 116 ad s.heap.size) s.heap H locs → lv_has ls 9 [(5, .int (nI (5 * t))), (4, .ref (ad 115)), (3, .ref (ad 114)), (2, .ref (ad 102)), (1, .ref (ad 0)), (0, .ref b)] → W p l e room_1 s m #[Value.ref b] below meth c H locs (cells + 1) (slots + 6) Q (F0 m 947 ls []))
  {ls : Array Slot} (hl : lv_has ls 9 [(5, .int (nI (5 * t))), (4, .ref (ad 115)), (3, .ref (ad 114)), (2, .ref (ad 102)), (1, .ref (ad 0)), (0, .ref b)]) : W p l e room_1 s m #[Value.ref b] below meth c H locs cells slots Q (F0 m 260 ls []) := by
  obtain ⟨v, I1, J1, X1, I2, J2, X2, f1, o1, f2, o2, j9, hf1, ho1, hf2, ho2, hj9, hC, hM, hv2⟩ := pk_fade l hst D cA ad K V tO tT hi hj hv
  refine lv_aload_n hx hb dL_law_260 rfl (lv_at hl 4 rfl) ?_
  refine w_calli (va_runV (As := []) (rest := []) ⟨hx, hb, hml, hown, hts⟩ (hC H.size) (cwV 0 hts gL_law_X4_fade rfl rfl rfl (by decide +kernel) ⟨by show f1 + 1 ≤ 2048; omega, by show 8 + (2 + 11) + o1 ≤ 84000; omega⟩) (w_preVA hK hP hXA hS 0 (by decide) ⟨rfl, rfl⟩ rfl) rfl rfl hl.1 rfl (lv_room (Nat.le_of_ble_eq_true rfl)) dL_law_261 ⟨by show cells + 0 ≤ 601024; omega, by show slots + 0 ≤ 7293034; omega⟩) hS (fun H locs hP hS => ?_)
  refine lv_aload_n hx hb dL_law_264 rfl (lv_at hl 3 rfl) ?_
  refine w_calli (va_runV (As := []) (rest := [.int v]) ⟨hx, hb, hml, hown, hts⟩ (hM H.size) (cwV 0 hts gL_law_X5_fade rfl rfl rfl (by decide +kernel) ⟨by show f2 + 1 ≤ 2048; omega, by show 8 + (3 + 11) + o2 ≤ 84000; omega⟩) (w_preVA hK hP hXA hS 102 (by decide) ⟨rfl, rfl⟩ rfl) rfl rfl hl.1 rfl (lv_room (Nat.le_of_ble_eq_true rfl)) dL_law_265 ⟨by show cells + 0 + 0 ≤ 601024; omega, by show slots + 0 + 0 ≤ 7293034; omega⟩) hS (fun H locs hP hS => ?_)
  refine lv_icmp_eq (tgt := 947) hx hb dL_law_268 (by decide) (fun _ => ?_) (fun z => absurd rfl z)
  refine W.widen (k := cells + 1) (n := slots + 6) (by omega) (by omega) ?_
  exact kx j9 _ _ _ _ _ _ hj9 hv2 hP hS (lv_sub hl [0, 1, 2, 3, 4, 5] rfl)

set_option maxHeartbeats 800000 in
set_option maxRecDepth 100000 in
theorem law_c3 {p : Program} {e : Env} {s : State} {m : MethodId} {below : List Frame} {meth : Method} {c : Code} (l : Launch) (hst : l.stackTraces = false) {b L : Nat} {xs : Nat → Int32} (hL : L ≤ 2560) (hx : p.tables.exec = Jvm.exec) (hb : c.code = cL_law) (hml : c.maxLocals = 9) (hown : s.vm.findClass RL = some m.cls) (hts : ∀ w ∈ wsL_law, w.before #[Value.ref b] s = true) (hXs : va_X b L xs s s.heap) (hbl : b < s.heap.size) {D : va_G} {cA : Nat → ClassId} {ad K V : Nat → Nat} {tO tT : Nat} (hi : inj 116 ad) (hbA : ¬ fr 116 ad s.heap.size b) (hK : WK D cA s) (hXA : XA ad K V tO tT s.heap.size s) {j : Nat} (hj : j < 513) {I : SI} {J : SJ} {X : SX} (hv : Inv2 j I J X) {t : Nat} (ht : 5 * t + 5 ≤ L) {H : Heap} {locs : List Loc} {cells slots : Nat} {Q : State → Prop} (hce : cells + 1 ≤ 601024) (hsl : slots + 6 ≤ 7293034) (hP : WP 116 D cA ad I J X H) (hS : va_S (fr 116 ad s.heap.size) s.heap H locs)
  (kx : ∀ (j' : Nat) (I : SI) (J : SJ) (X : SX) (H : Heap) (locs : List Loc) (ls : Array Slot), j' ≤ j + 1 → Inv2 j' I J X → WP 116 D cA ad I J X H → va_S (fr 116 ad s.heap.size) s.heap H locs → lv_has ls 9 [(5, .int (nI (5 * t))), (4, .ref (ad 115)), (3, .ref (ad 114)), (2, .ref (ad 102)), (1, .ref (ad 0)), (0, .ref b)] → W p l e room_1 s m #[Value.ref b] below meth c H locs (cells + 1) (slots + 6) Q (F0 m 947 ls []))
  {ls : Array Slot} (hl : lv_has ls 9 [(5, .int (nI (5 * t))), (4, .ref (ad 115)), (3, .ref (ad 114)), (2, .ref (ad 102)), (1, .ref (ad 0)), (0, .ref b)]) : W p l e room_1 s m #[Value.ref b] below meth c H locs cells slots Q (F0 m 273 ls []) := by
  obtain ⟨k, v, I1, J1, X1, I2, J2, X2, f, o, j9, hf, ho, hj9, hH, hM, h14, hcmp, hv2⟩ := pk_bar l hst D cA ad K V tO tT hi hj hv (xs (5 * t + 1)) (xs (5 * t + 2))
  refine lv_aload_n hx hb dL_law_273 rfl (lv_at hl 4 rfl) ?_
  refine lv_aload_n hx hb dL_law_274 rfl (lv_at hl 5 rfl) ?_
  refine lv_iload hx hb dL_law_275 (lv_at hl 0 rfl) ?_
  refine lv_iconst (v := 1) hx hb dL_law_277 (by decide) ?_
  refine w_iaddN (a := 5 * t) (b := 1) hx hb rfl rfl dL_law_278 ?_
  refine lw_sld hx hb hXs hbl hbA hS hL (n := 5 * t + 1) (by omega) rfl dL_law_279 ?_
  refine lv_aload_n hx hb dL_law_280 rfl (lv_at hl 5 rfl) ?_
  refine lv_iload hx hb dL_law_281 (lv_at hl 0 rfl) ?_
  refine lv_iconst (v := 2) hx hb dL_law_283 (by decide) ?_
  refine w_iaddN (a := 5 * t) (b := 2) hx hb rfl rfl dL_law_284 ?_
  refine lw_sld hx hb hXs hbl hbA hS hL (n := 5 * t + 2) (by omega) rfl dL_law_285 ?_
  refine lv_aload_n hx hb dL_law_286 rfl (lv_at hl 2 rfl) ?_
  refine w_calli (vx_runSW (As := [.ref (ad 0), .int (xs (5 * t + 1)), .int (xs (5 * t + 2)), .ref (ad 114)]) (rest := []) ⟨hx, hb, hml, hown, hts⟩ (hH H.size) (vx_cwSW 4 hts gL_law_L_bar rfl rfl rfl (by decide +kernel) ⟨(Nat.le_of_ble_eq_true rfl), (Nat.le_of_ble_eq_true rfl)⟩) (w_preSA hK hP hXA hS) rfl rfl hl.1 rfl (lv_room (Nat.le_of_ble_eq_true rfl)) dL_law_287 ⟨by show cells + 1 ≤ 601024; omega, by show slots + 6 ≤ 7293034; omega⟩) hS (fun H locs hP hS => ?_)
  refine lv_istore (lv' := [(6, .int k), (5, .int (nI (5 * t))), (4, .ref (ad 115)), (3, .ref (ad 114)), (2, .ref (ad 102)), (1, .ref (ad 0)), (0, .ref b)]) hx hb dL_law_290 hl (by decide) rfl (fun ls hl => ?_)
  refine lv_aload_n hx hb dL_law_292 rfl (lv_at hl 4 rfl) ?_
  refine lv_aload_n hx hb dL_law_293 rfl (lv_at hl 6 rfl) ?_
  refine lv_iload hx hb dL_law_294 (lv_at hl 1 rfl) ?_
  refine lv_iconst (v := 1) hx hb dL_law_296 (by decide) ?_
  refine w_iaddN (a := 5 * t) (b := 1) hx hb rfl rfl dL_law_297 ?_
  refine lw_sld hx hb hXs hbl hbA hS hL (n := 5 * t + 1) (by omega) rfl dL_law_298 ?_
  refine lv_aload_n hx hb dL_law_299 rfl (lv_at hl 6 rfl) ?_
  refine lv_iload hx hb dL_law_300 (lv_at hl 1 rfl) ?_
  refine lv_iconst (v := 2) hx hb dL_law_302 (by decide) ?_
  refine w_iaddN (a := 5 * t) (b := 2) hx hb rfl rfl dL_law_303 ?_
  refine lw_sld hx hb hXs hbl hbA hS hL (n := 5 * t + 2) (by omega) rfl dL_law_304 ?_
  refine w_calli (va_runV (As := [.int (xs (5 * t + 1)), .int (xs (5 * t + 2))]) (rest := []) ⟨hx, hb, hml, hown, hts⟩ (hM H.size) (cwV 2 hts gL_law_X5_bar rfl rfl rfl (by decide +kernel) ⟨by show f + 1 ≤ 2048; omega, by show 8 + (5 + 11) + o ≤ 84000; omega⟩) (w_preVA hK hP hXA hS 102 (by decide) ⟨rfl, rfl⟩ rfl) rfl rfl hl.1 rfl (lv_room (Nat.le_of_ble_eq_true rfl)) dL_law_305 ⟨by show cells + 1 + 0 ≤ 601024; omega, by show slots + 6 + 0 ≤ 7293034; omega⟩) hS (fun H locs hP hS => ?_)
  refine lv_istore (lv' := [(7, .int v), (6, .int k), (5, .int (nI (5 * t))), (4, .ref (ad 115)), (3, .ref (ad 114)), (2, .ref (ad 102)), (1, .ref (ad 0)), (0, .ref b)]) hx hb dL_law_308 hl (by decide) rfl (fun ls hl => ?_)
  refine lv_aload_n hx hb dL_law_310 rfl (lv_at hl 5 rfl) ?_
  refine w_calli (va_runV (As := []) (rest := []) ⟨hx, hb, hml, hown, hts⟩ (c_X5_thrown l 116 D cA ad hi (by decide) I2 J2 X2 H.size) (cwV 0 hts gL_law_X5_thrown rfl rfl rfl (by decide +kernel) ⟨(Nat.le_of_ble_eq_true rfl), (Nat.le_of_ble_eq_true rfl)⟩) (w_preV hK hP 102 (by decide) ⟨rfl, rfl⟩ rfl) rfl rfl hl.1 rfl (lv_room (Nat.le_of_ble_eq_true rfl)) dL_law_311 ⟨by show cells + 1 + 0 + 0 ≤ 601024; omega, by show slots + 6 + 0 + 0 ≤ 7293034; omega⟩) hS (fun H locs hP hS => ?_)
  rw [h14]
  refine lv_iload hx hb dL_law_314 (lv_at hl 1 rfl) ?_
  refine lv_icmp_eq (tgt := 321) hx hb dL_law_316 (by decide) (fun _ => ?_) (fun z => absurd rfl z)
  refine lv_iload hx hb dL_law_321 (lv_at hl 1 rfl) ?_
  refine lv_if_ne (tgt := 338) hx hb dL_law_323 (by decide) (fun _ => ?_) (fun hk0 => ?_)
  · skip
    refine lv_goto (tgt := 947) hx hb dL_law_338 (by decide) ?_
    exact kx j9 _ _ _ _ _ _ hj9 hv2 hP hS (lv_sub hl [2, 3, 4, 5, 6, 7] rfl)
  · skip
    refine lv_aload_n hx hb dL_law_326 rfl (lv_at hl 4 rfl) ?_
    refine lv_iconst (v := 0) hx hb dL_law_327 (by decide) ?_
    refine w_lald hx hb hK hP 114 0 ⟨rfl, by decide⟩ (by decide) rfl dL_law_328 ?_
    refine lv_iload hx hb dL_law_329 (lv_at hl 0 rfl) ?_
    refine lv_i2l (v := v.toInt64) hx hb dL_law_331 rfl ?_
    refine W.lcmp hx hb dL_law_332 ?_
    refine lv_if_eq (tgt := 338) hx hb dL_law_333 (by decide) (fun _ => ?_) (fun z => absurd ((lg_cmp_eq _ _).mpr (hcmp hk0)) z)
    refine lv_goto (tgt := 947) hx hb dL_law_338 (by decide) ?_
    exact kx j9 _ _ _ _ _ _ hj9 hv2 hP hS (lv_sub hl [2, 3, 4, 5, 6, 7] rfl)

set_option maxHeartbeats 800000 in
set_option maxRecDepth 100000 in
theorem law_c4 {p : Program} {e : Env} {s : State} {m : MethodId} {below : List Frame} {meth : Method} {c : Code} (l : Launch) (hst : l.stackTraces = false) {b L : Nat} {xs : Nat → Int32} (hL : L ≤ 2560) (hx : p.tables.exec = Jvm.exec) (hb : c.code = cL_law) (hml : c.maxLocals = 9) (hown : s.vm.findClass RL = some m.cls) (hts : ∀ w ∈ wsL_law, w.before #[Value.ref b] s = true) (hXs : va_X b L xs s s.heap) (hbl : b < s.heap.size) {D : va_G} {cA : Nat → ClassId} {ad K V : Nat → Nat} {tO tT : Nat} (hi : inj 116 ad) (hbA : ¬ fr 116 ad s.heap.size b) (hK : WK D cA s) (hXA : XA ad K V tO tT s.heap.size s) {j : Nat} (hj : j < 513) {I : SI} {J : SJ} {X : SX} (hv : Inv2 j I J X) {t : Nat} (ht : 5 * t + 5 ≤ L) {H : Heap} {locs : List Loc} {cells slots : Nat} {Q : State → Prop} (hce : cells + 1 ≤ 601024) (hsl : slots + 6 ≤ 7293034) (hP : WP 116 D cA ad I J X H) (hS : va_S (fr 116 ad s.heap.size) s.heap H locs)
  (kx : ∀ (j' : Nat) (I : SI) (J : SJ) (X : SX) (H : Heap) (locs : List Loc) (ls : Array Slot), j' ≤ j + 1 → Inv2 j' I J X → WP 116 D cA ad I J X H → va_S (fr 116 ad s.heap.size) s.heap H locs → lv_has ls 9 [(5, .int (nI (5 * t))), (4, .ref (ad 115)), (3, .ref (ad 114)), (2, .ref (ad 102)), (1, .ref (ad 0)), (0, .ref b)] → W p l e room_1 s m #[Value.ref b] below meth c H locs (cells + 1) (slots + 6) Q (F0 m 947 ls []))
  {ls : Array Slot} (hl : lv_has ls 9 [(5, .int (nI (5 * t))), (4, .ref (ad 115)), (3, .ref (ad 114)), (2, .ref (ad 102)), (1, .ref (ad 0)), (0, .ref b)]) : W p l e room_1 s m #[Value.ref b] below meth c H locs cells slots Q (F0 m 341 ls []) := by
  obtain ⟨k, I1, J1, X1, I2, J2, X2, f, o, j9, hf, ho, hj9, hH, hM, h14, hv2⟩ := pk_walk l hst D cA ad K V tO tT hi hj hv (xs (5 * t + 1)) (xs (5 * t + 2))
  refine lv_aload_n hx hb dL_law_341 rfl (lv_at hl 4 rfl) ?_
  refine lv_aload_n hx hb dL_law_342 rfl (lv_at hl 5 rfl) ?_
  refine lv_iload hx hb dL_law_343 (lv_at hl 0 rfl) ?_
  refine lv_iconst (v := 1) hx hb dL_law_345 (by decide) ?_
  refine w_iaddN (a := 5 * t) (b := 1) hx hb rfl rfl dL_law_346 ?_
  refine lw_sld hx hb hXs hbl hbA hS hL (n := 5 * t + 1) (by omega) rfl dL_law_347 ?_
  refine lv_aload_n hx hb dL_law_348 rfl (lv_at hl 5 rfl) ?_
  refine lv_iload hx hb dL_law_349 (lv_at hl 0 rfl) ?_
  refine lv_iconst (v := 2) hx hb dL_law_351 (by decide) ?_
  refine w_iaddN (a := 5 * t) (b := 2) hx hb rfl rfl dL_law_352 ?_
  refine lw_sld hx hb hXs hbl hbA hS hL (n := 5 * t + 2) (by omega) rfl dL_law_353 ?_
  refine w_calli (vx_runSW (As := [.ref (ad 0), .int (xs (5 * t + 1)), .int (xs (5 * t + 2))]) (rest := []) ⟨hx, hb, hml, hown, hts⟩ (hH H.size) (vx_cwSW 3 hts gL_law_L_walk rfl rfl rfl (by decide +kernel) ⟨(Nat.le_of_ble_eq_true rfl), (Nat.le_of_ble_eq_true rfl)⟩) (w_preSA hK hP hXA hS) rfl rfl hl.1 rfl (lv_room (Nat.le_of_ble_eq_true rfl)) dL_law_354 ⟨by show cells + 1 ≤ 601024; omega, by show slots + 6 ≤ 7293034; omega⟩) hS (fun H locs hP hS => ?_)
  refine lv_istore (lv' := [(6, .int k), (5, .int (nI (5 * t))), (4, .ref (ad 115)), (3, .ref (ad 114)), (2, .ref (ad 102)), (1, .ref (ad 0)), (0, .ref b)]) hx hb dL_law_357 hl (by decide) rfl (fun ls hl => ?_)
  refine lv_aload_n hx hb dL_law_359 rfl (lv_at hl 4 rfl) ?_
  refine lv_aload_n hx hb dL_law_360 rfl (lv_at hl 6 rfl) ?_
  refine lv_iload hx hb dL_law_361 (lv_at hl 1 rfl) ?_
  refine lv_iconst (v := 1) hx hb dL_law_363 (by decide) ?_
  refine w_iaddN (a := 5 * t) (b := 1) hx hb rfl rfl dL_law_364 ?_
  refine lw_sld hx hb hXs hbl hbA hS hL (n := 5 * t + 1) (by omega) rfl dL_law_365 ?_
  refine lv_aload_n hx hb dL_law_366 rfl (lv_at hl 6 rfl) ?_
  refine lv_iload hx hb dL_law_367 (lv_at hl 1 rfl) ?_
  refine lv_iconst (v := 2) hx hb dL_law_369 (by decide) ?_
  refine w_iaddN (a := 5 * t) (b := 2) hx hb rfl rfl dL_law_370 ?_
  refine lw_sld hx hb hXs hbl hbA hS hL (n := 5 * t + 2) (by omega) rfl dL_law_371 ?_
  refine w_callv (va_runV (As := [.int (xs (5 * t + 1)), .int (xs (5 * t + 2))]) (rest := []) ⟨hx, hb, hml, hown, hts⟩ (hM H.size) (cwV 2 hts gL_law_X5_walk rfl rfl rfl (by decide +kernel) ⟨by show f + 1 ≤ 2048; omega, by show 8 + (3 + 11) + o ≤ 84000; omega⟩) (w_preVA hK hP hXA hS 102 (by decide) ⟨rfl, rfl⟩ rfl) rfl rfl hl.1 rfl (lv_room (Nat.le_of_ble_eq_true rfl)) dL_law_372 ⟨by show cells + 1 + 0 ≤ 601024; omega, by show slots + 6 + 0 ≤ 7293034; omega⟩) hS (fun H locs hP hS => ?_)
  refine lv_aload_n hx hb dL_law_375 rfl (lv_at hl 4 rfl) ?_
  refine w_calli (va_runV (As := []) (rest := []) ⟨hx, hb, hml, hown, hts⟩ (c_X5_thrown l 116 D cA ad hi (by decide) I2 J2 X2 H.size) (cwV 0 hts gL_law_X5_thrown rfl rfl rfl (by decide +kernel) ⟨(Nat.le_of_ble_eq_true rfl), (Nat.le_of_ble_eq_true rfl)⟩) (w_preV hK hP 102 (by decide) ⟨rfl, rfl⟩ rfl) rfl rfl hl.1 rfl (lv_room (Nat.le_of_ble_eq_true rfl)) dL_law_376 ⟨by show cells + 1 + 0 + 0 ≤ 601024; omega, by show slots + 6 + 0 + 0 ≤ 7293034; omega⟩) hS (fun H locs hP hS => ?_)
  rw [h14]
  refine lv_iload hx hb dL_law_379 (lv_at hl 0 rfl) ?_
  refine lv_icmp_eq (tgt := 386) hx hb dL_law_381 (by decide) (fun _ => ?_) (fun z => absurd rfl z)
  refine lv_goto (tgt := 947) hx hb dL_law_386 (by decide) ?_
  exact kx j9 _ _ _ _ _ _ hj9 hv2 hP hS (lv_sub hl [1, 2, 3, 4, 5, 6] rfl)

set_option maxHeartbeats 800000 in
set_option maxRecDepth 100000 in
theorem law_c5 {p : Program} {e : Env} {s : State} {m : MethodId} {below : List Frame} {meth : Method} {c : Code} (l : Launch) (hst : l.stackTraces = false) {b L : Nat} {xs : Nat → Int32} (hL : L ≤ 2560) (hx : p.tables.exec = Jvm.exec) (hb : c.code = cL_law) (hml : c.maxLocals = 9) (hown : s.vm.findClass RL = some m.cls) (hts : ∀ w ∈ wsL_law, w.before #[Value.ref b] s = true) (hXs : va_X b L xs s s.heap) (hbl : b < s.heap.size) {D : va_G} {cA : Nat → ClassId} {ad K V : Nat → Nat} {tO tT : Nat} (hi : inj 116 ad) (hbA : ¬ fr 116 ad s.heap.size b) (hK : WK D cA s) (hXA : XA ad K V tO tT s.heap.size s) {j : Nat} (hj : j < 513) {I : SI} {J : SJ} {X : SX} (hv : Inv2 j I J X) {t : Nat} (ht : 5 * t + 5 ≤ L) {H : Heap} {locs : List Loc} {cells slots : Nat} {Q : State → Prop} (hce : cells + 1 ≤ 601024) (hsl : slots + 6 ≤ 7293034) (hP : WP 116 D cA ad I J X H) (hS : va_S (fr 116 ad s.heap.size) s.heap H locs)
  (kx : ∀ (j' : Nat) (I : SI) (J : SJ) (X : SX) (H : Heap) (locs : List Loc) (ls : Array Slot), j' ≤ j + 1 → Inv2 j' I J X → WP 116 D cA ad I J X H → va_S (fr 116 ad s.heap.size) s.heap H locs → lv_has ls 9 [(5, .int (nI (5 * t))), (4, .ref (ad 115)), (3, .ref (ad 114)), (2, .ref (ad 102)), (1, .ref (ad 0)), (0, .ref b)] → W p l e room_1 s m #[Value.ref b] below meth c H locs (cells + 1) (slots + 6) Q (F0 m 947 ls []))
  {ls : Array Slot} (hl : lv_has ls 9 [(5, .int (nI (5 * t))), (4, .ref (ad 115)), (3, .ref (ad 114)), (2, .ref (ad 102)), (1, .ref (ad 0)), (0, .ref b)]) : W p l e room_1 s m #[Value.ref b] below meth c H locs cells slots Q (F0 m 389 ls []) := by
  obtain ⟨k, v, I1, J1, X1, I2, J2, X2, f, o, j9, hf, ho, hj9, hH, hM, h14, hcmp, hv2⟩ := pk_landed l hst D cA ad K V tO tT hi hj hv (xs (5 * t + 1)) (xs (5 * t + 2))
  refine lv_aload_n hx hb dL_law_389 rfl (lv_at hl 4 rfl) ?_
  refine lv_aload_n hx hb dL_law_390 rfl (lv_at hl 5 rfl) ?_
  refine lv_iload hx hb dL_law_391 (lv_at hl 0 rfl) ?_
  refine lv_iconst (v := 1) hx hb dL_law_393 (by decide) ?_
  refine w_iaddN (a := 5 * t) (b := 1) hx hb rfl rfl dL_law_394 ?_
  refine lw_sld hx hb hXs hbl hbA hS hL (n := 5 * t + 1) (by omega) rfl dL_law_395 ?_
  refine lv_aload_n hx hb dL_law_396 rfl (lv_at hl 5 rfl) ?_
  refine lv_iload hx hb dL_law_397 (lv_at hl 0 rfl) ?_
  refine lv_iconst (v := 2) hx hb dL_law_399 (by decide) ?_
  refine w_iaddN (a := 5 * t) (b := 2) hx hb rfl rfl dL_law_400 ?_
  refine lw_sld hx hb hXs hbl hbA hS hL (n := 5 * t + 2) (by omega) rfl dL_law_401 ?_
  refine lv_aload_n hx hb dL_law_402 rfl (lv_at hl 2 rfl) ?_
  refine w_calli (vx_runSW (As := [.ref (ad 0), .int (xs (5 * t + 1)), .int (xs (5 * t + 2)), .ref (ad 114)]) (rest := []) ⟨hx, hb, hml, hown, hts⟩ (hH H.size) (vx_cwSW 4 hts gL_law_L_landed rfl rfl rfl (by decide +kernel) ⟨(Nat.le_of_ble_eq_true rfl), (Nat.le_of_ble_eq_true rfl)⟩) (w_preSA hK hP hXA hS) rfl rfl hl.1 rfl (lv_room (Nat.le_of_ble_eq_true rfl)) dL_law_403 ⟨by show cells + 1 ≤ 601024; omega, by show slots + 6 ≤ 7293034; omega⟩) hS (fun H locs hP hS => ?_)
  refine lv_istore (lv' := [(6, .int k), (5, .int (nI (5 * t))), (4, .ref (ad 115)), (3, .ref (ad 114)), (2, .ref (ad 102)), (1, .ref (ad 0)), (0, .ref b)]) hx hb dL_law_406 hl (by decide) rfl (fun ls hl => ?_)
  refine lv_aload_n hx hb dL_law_408 rfl (lv_at hl 4 rfl) ?_
  refine lv_aload_n hx hb dL_law_409 rfl (lv_at hl 6 rfl) ?_
  refine lv_iload hx hb dL_law_410 (lv_at hl 1 rfl) ?_
  refine lv_iconst (v := 1) hx hb dL_law_412 (by decide) ?_
  refine w_iaddN (a := 5 * t) (b := 1) hx hb rfl rfl dL_law_413 ?_
  refine lw_sld hx hb hXs hbl hbA hS hL (n := 5 * t + 1) (by omega) rfl dL_law_414 ?_
  refine lv_aload_n hx hb dL_law_415 rfl (lv_at hl 6 rfl) ?_
  refine lv_iload hx hb dL_law_416 (lv_at hl 1 rfl) ?_
  refine lv_iconst (v := 2) hx hb dL_law_418 (by decide) ?_
  refine w_iaddN (a := 5 * t) (b := 2) hx hb rfl rfl dL_law_419 ?_
  refine lw_sld hx hb hXs hbl hbA hS hL (n := 5 * t + 2) (by omega) rfl dL_law_420 ?_
  refine w_calli (va_runV (As := [.int (xs (5 * t + 1)), .int (xs (5 * t + 2))]) (rest := []) ⟨hx, hb, hml, hown, hts⟩ (hM H.size) (cwV 2 hts gL_law_X5_landed rfl rfl rfl (by decide +kernel) ⟨by show f + 1 ≤ 2048; omega, by show 8 + (3 + 11) + o ≤ 84000; omega⟩) (w_preVA hK hP hXA hS 102 (by decide) ⟨rfl, rfl⟩ rfl) rfl rfl hl.1 rfl (lv_room (Nat.le_of_ble_eq_true rfl)) dL_law_421 ⟨by show cells + 1 + 0 ≤ 601024; omega, by show slots + 6 + 0 ≤ 7293034; omega⟩) hS (fun H locs hP hS => ?_)
  refine lv_istore (lv' := [(7, .int v), (6, .int k), (5, .int (nI (5 * t))), (4, .ref (ad 115)), (3, .ref (ad 114)), (2, .ref (ad 102)), (1, .ref (ad 0)), (0, .ref b)]) hx hb dL_law_424 hl (by decide) rfl (fun ls hl => ?_)
  refine lv_aload_n hx hb dL_law_426 rfl (lv_at hl 5 rfl) ?_
  refine w_calli (va_runV (As := []) (rest := []) ⟨hx, hb, hml, hown, hts⟩ (c_X5_thrown l 116 D cA ad hi (by decide) I2 J2 X2 H.size) (cwV 0 hts gL_law_X5_thrown rfl rfl rfl (by decide +kernel) ⟨(Nat.le_of_ble_eq_true rfl), (Nat.le_of_ble_eq_true rfl)⟩) (w_preV hK hP 102 (by decide) ⟨rfl, rfl⟩ rfl) rfl rfl hl.1 rfl (lv_room (Nat.le_of_ble_eq_true rfl)) dL_law_427 ⟨by show cells + 1 + 0 + 0 ≤ 601024; omega, by show slots + 6 + 0 + 0 ≤ 7293034; omega⟩) hS (fun H locs hP hS => ?_)
  rw [h14]
  refine lv_iload hx hb dL_law_430 (lv_at hl 1 rfl) ?_
  refine lv_icmp_eq (tgt := 437) hx hb dL_law_432 (by decide) (fun _ => ?_) (fun z => absurd rfl z)
  refine lv_iload hx hb dL_law_437 (lv_at hl 1 rfl) ?_
  refine lv_if_ne (tgt := 454) hx hb dL_law_439 (by decide) (fun _ => ?_) (fun hk0 => ?_)
  · skip
    refine lv_goto (tgt := 947) hx hb dL_law_454 (by decide) ?_
    exact kx j9 _ _ _ _ _ _ hj9 hv2 hP hS (lv_sub hl [2, 3, 4, 5, 6, 7] rfl)
  · skip
    refine lv_aload_n hx hb dL_law_442 rfl (lv_at hl 4 rfl) ?_
    refine lv_iconst (v := 0) hx hb dL_law_443 (by decide) ?_
    refine w_lald hx hb hK hP 114 0 ⟨rfl, by decide⟩ (by decide) rfl dL_law_444 ?_
    refine lv_iload hx hb dL_law_445 (lv_at hl 0 rfl) ?_
    refine lv_i2l (v := v.toInt64) hx hb dL_law_447 rfl ?_
    refine W.lcmp hx hb dL_law_448 ?_
    refine lv_if_eq (tgt := 454) hx hb dL_law_449 (by decide) (fun _ => ?_) (fun z => absurd ((lg_cmp_eq _ _).mpr (hcmp hk0)) z)
    refine lv_goto (tgt := 947) hx hb dL_law_454 (by decide) ?_
    exact kx j9 _ _ _ _ _ _ hj9 hv2 hP hS (lv_sub hl [2, 3, 4, 5, 6, 7] rfl)

set_option maxHeartbeats 800000 in
set_option maxRecDepth 100000 in
theorem law_c6 {p : Program} {e : Env} {s : State} {m : MethodId} {below : List Frame} {meth : Method} {c : Code} (l : Launch) (hst : l.stackTraces = false) {b L : Nat} {xs : Nat → Int32} (hL : L ≤ 2560) (hx : p.tables.exec = Jvm.exec) (hb : c.code = cL_law) (hml : c.maxLocals = 9) (hown : s.vm.findClass RL = some m.cls) (hts : ∀ w ∈ wsL_law, w.before #[Value.ref b] s = true) (hXs : va_X b L xs s s.heap) (hbl : b < s.heap.size) {D : va_G} {cA : Nat → ClassId} {ad K V : Nat → Nat} {tO tT : Nat} (hi : inj 116 ad) (hbA : ¬ fr 116 ad s.heap.size b) (hK : WK D cA s) (hXA : XA ad K V tO tT s.heap.size s) {j : Nat} (hj : j < 513) {I : SI} {J : SJ} {X : SX} (hv : Inv2 j I J X) {t : Nat} (ht : 5 * t + 5 ≤ L) {H : Heap} {locs : List Loc} {cells slots : Nat} {Q : State → Prop} (hce : cells + 1 ≤ 601024) (hsl : slots + 6 ≤ 7293034) (hP : WP 116 D cA ad I J X H) (hS : va_S (fr 116 ad s.heap.size) s.heap H locs)
  (kx : ∀ (j' : Nat) (I : SI) (J : SJ) (X : SX) (H : Heap) (locs : List Loc) (ls : Array Slot), j' ≤ j + 1 → Inv2 j' I J X → WP 116 D cA ad I J X H → va_S (fr 116 ad s.heap.size) s.heap H locs → lv_has ls 9 [(5, .int (nI (5 * t))), (4, .ref (ad 115)), (3, .ref (ad 114)), (2, .ref (ad 102)), (1, .ref (ad 0)), (0, .ref b)] → W p l e room_1 s m #[Value.ref b] below meth c H locs (cells + 1) (slots + 6) Q (F0 m 947 ls []))
  {ls : Array Slot} (hl : lv_has ls 9 [(5, .int (nI (5 * t))), (4, .ref (ad 115)), (3, .ref (ad 114)), (2, .ref (ad 102)), (1, .ref (ad 0)), (0, .ref b)]) : W p l e room_1 s m #[Value.ref b] below meth c H locs cells slots Q (F0 m 457 ls []) := by
  obtain ⟨k, v, I1, J1, X1, I2, J2, X2, f, o, j9, hf, ho, hj9, hH, hM, h14, hcmp, hv2⟩ := pk_rest l hst D cA ad K V tO tT hi hj hv (xs (5 * t + 1)) (xs (5 * t + 2))
  refine lv_aload_n hx hb dL_law_457 rfl (lv_at hl 4 rfl) ?_
  refine lv_aload_n hx hb dL_law_458 rfl (lv_at hl 5 rfl) ?_
  refine lv_iload hx hb dL_law_459 (lv_at hl 0 rfl) ?_
  refine lv_iconst (v := 1) hx hb dL_law_461 (by decide) ?_
  refine w_iaddN (a := 5 * t) (b := 1) hx hb rfl rfl dL_law_462 ?_
  refine lw_sld hx hb hXs hbl hbA hS hL (n := 5 * t + 1) (by omega) rfl dL_law_463 ?_
  refine lv_aload_n hx hb dL_law_464 rfl (lv_at hl 5 rfl) ?_
  refine lv_iload hx hb dL_law_465 (lv_at hl 0 rfl) ?_
  refine lv_iconst (v := 2) hx hb dL_law_467 (by decide) ?_
  refine w_iaddN (a := 5 * t) (b := 2) hx hb rfl rfl dL_law_468 ?_
  refine lw_sld hx hb hXs hbl hbA hS hL (n := 5 * t + 2) (by omega) rfl dL_law_469 ?_
  refine lv_aload_n hx hb dL_law_470 rfl (lv_at hl 2 rfl) ?_
  refine w_calli (vx_runSW (As := [.ref (ad 0), .int (xs (5 * t + 1)), .int (xs (5 * t + 2)), .ref (ad 114)]) (rest := []) ⟨hx, hb, hml, hown, hts⟩ (hH H.size) (vx_cwSW 4 hts gL_law_L_rest rfl rfl rfl (by decide +kernel) ⟨(Nat.le_of_ble_eq_true rfl), (Nat.le_of_ble_eq_true rfl)⟩) (w_preSA hK hP hXA hS) rfl rfl hl.1 rfl (lv_room (Nat.le_of_ble_eq_true rfl)) dL_law_471 ⟨by show cells + 1 ≤ 601024; omega, by show slots + 6 ≤ 7293034; omega⟩) hS (fun H locs hP hS => ?_)
  refine lv_istore (lv' := [(6, .int k), (5, .int (nI (5 * t))), (4, .ref (ad 115)), (3, .ref (ad 114)), (2, .ref (ad 102)), (1, .ref (ad 0)), (0, .ref b)]) hx hb dL_law_474 hl (by decide) rfl (fun ls hl => ?_)
  refine lv_aload_n hx hb dL_law_476 rfl (lv_at hl 4 rfl) ?_
  refine lv_aload_n hx hb dL_law_477 rfl (lv_at hl 6 rfl) ?_
  refine lv_iload hx hb dL_law_478 (lv_at hl 1 rfl) ?_
  refine lv_iconst (v := 1) hx hb dL_law_480 (by decide) ?_
  refine w_iaddN (a := 5 * t) (b := 1) hx hb rfl rfl dL_law_481 ?_
  refine lw_sld hx hb hXs hbl hbA hS hL (n := 5 * t + 1) (by omega) rfl dL_law_482 ?_
  refine lv_aload_n hx hb dL_law_483 rfl (lv_at hl 6 rfl) ?_
  refine lv_iload hx hb dL_law_484 (lv_at hl 1 rfl) ?_
  refine lv_iconst (v := 2) hx hb dL_law_486 (by decide) ?_
  refine w_iaddN (a := 5 * t) (b := 2) hx hb rfl rfl dL_law_487 ?_
  refine lw_sld hx hb hXs hbl hbA hS hL (n := 5 * t + 2) (by omega) rfl dL_law_488 ?_
  refine w_calli (va_runV (As := [.int (xs (5 * t + 1)), .int (xs (5 * t + 2))]) (rest := []) ⟨hx, hb, hml, hown, hts⟩ (hM H.size) (cwV 2 hts gL_law_X5_rest rfl rfl rfl (by decide +kernel) ⟨by show f + 1 ≤ 2048; omega, by show 8 + (3 + 11) + o ≤ 84000; omega⟩) (w_preVA hK hP hXA hS 102 (by decide) ⟨rfl, rfl⟩ rfl) rfl rfl hl.1 rfl (lv_room (Nat.le_of_ble_eq_true rfl)) dL_law_489 ⟨by show cells + 1 + 0 ≤ 601024; omega, by show slots + 6 + 0 ≤ 7293034; omega⟩) hS (fun H locs hP hS => ?_)
  refine lv_istore (lv' := [(7, .int v), (6, .int k), (5, .int (nI (5 * t))), (4, .ref (ad 115)), (3, .ref (ad 114)), (2, .ref (ad 102)), (1, .ref (ad 0)), (0, .ref b)]) hx hb dL_law_492 hl (by decide) rfl (fun ls hl => ?_)
  refine lv_aload_n hx hb dL_law_494 rfl (lv_at hl 5 rfl) ?_
  refine w_calli (va_runV (As := []) (rest := []) ⟨hx, hb, hml, hown, hts⟩ (c_X5_thrown l 116 D cA ad hi (by decide) I2 J2 X2 H.size) (cwV 0 hts gL_law_X5_thrown rfl rfl rfl (by decide +kernel) ⟨(Nat.le_of_ble_eq_true rfl), (Nat.le_of_ble_eq_true rfl)⟩) (w_preV hK hP 102 (by decide) ⟨rfl, rfl⟩ rfl) rfl rfl hl.1 rfl (lv_room (Nat.le_of_ble_eq_true rfl)) dL_law_495 ⟨by show cells + 1 + 0 + 0 ≤ 601024; omega, by show slots + 6 + 0 + 0 ≤ 7293034; omega⟩) hS (fun H locs hP hS => ?_)
  rw [h14]
  refine lv_iload hx hb dL_law_498 (lv_at hl 1 rfl) ?_
  refine lv_icmp_eq (tgt := 505) hx hb dL_law_500 (by decide) (fun _ => ?_) (fun z => absurd rfl z)
  refine lv_iload hx hb dL_law_505 (lv_at hl 1 rfl) ?_
  refine lv_if_ne (tgt := 522) hx hb dL_law_507 (by decide) (fun _ => ?_) (fun hk0 => ?_)
  · skip
    refine lv_goto (tgt := 947) hx hb dL_law_522 (by decide) ?_
    exact kx j9 _ _ _ _ _ _ hj9 hv2 hP hS (lv_sub hl [2, 3, 4, 5, 6, 7] rfl)
  · skip
    refine lv_aload_n hx hb dL_law_510 rfl (lv_at hl 4 rfl) ?_
    refine lv_iconst (v := 0) hx hb dL_law_511 (by decide) ?_
    refine w_lald hx hb hK hP 114 0 ⟨rfl, by decide⟩ (by decide) rfl dL_law_512 ?_
    refine lv_iload hx hb dL_law_513 (lv_at hl 0 rfl) ?_
    refine lv_i2l (v := v.toInt64) hx hb dL_law_515 rfl ?_
    refine W.lcmp hx hb dL_law_516 ?_
    refine lv_if_eq (tgt := 522) hx hb dL_law_517 (by decide) (fun _ => ?_) (fun z => absurd ((lg_cmp_eq _ _).mpr (hcmp hk0)) z)
    refine lv_goto (tgt := 947) hx hb dL_law_522 (by decide) ?_
    exact kx j9 _ _ _ _ _ _ hj9 hv2 hP hS (lv_sub hl [2, 3, 4, 5, 6, 7] rfl)

set_option maxHeartbeats 800000 in
set_option maxRecDepth 100000 in
theorem law_c7 {p : Program} {e : Env} {s : State} {m : MethodId} {below : List Frame} {meth : Method} {c : Code} (l : Launch) (hst : l.stackTraces = false) {b L : Nat} {xs : Nat → Int32} (hL : L ≤ 2560) (hx : p.tables.exec = Jvm.exec) (hb : c.code = cL_law) (hml : c.maxLocals = 9) (hown : s.vm.findClass RL = some m.cls) (hts : ∀ w ∈ wsL_law, w.before #[Value.ref b] s = true) (hXs : va_X b L xs s s.heap) (hbl : b < s.heap.size) {D : va_G} {cA : Nat → ClassId} {ad K V : Nat → Nat} {tO tT : Nat} (hi : inj 116 ad) (hbA : ¬ fr 116 ad s.heap.size b) (hK : WK D cA s) (hXA : XA ad K V tO tT s.heap.size s) {j : Nat} (hj : j < 513) {I : SI} {J : SJ} {X : SX} (hv : Inv2 j I J X) {t : Nat} (ht : 5 * t + 5 ≤ L) {H : Heap} {locs : List Loc} {cells slots : Nat} {Q : State → Prop} (hce : cells + 1 ≤ 601024) (hsl : slots + 6 ≤ 7293034) (hP : WP 116 D cA ad I J X H) (hS : va_S (fr 116 ad s.heap.size) s.heap H locs)
  (kx : ∀ (j' : Nat) (I : SI) (J : SJ) (X : SX) (H : Heap) (locs : List Loc) (ls : Array Slot), j' ≤ j + 1 → Inv2 j' I J X → WP 116 D cA ad I J X H → va_S (fr 116 ad s.heap.size) s.heap H locs → lv_has ls 9 [(5, .int (nI (5 * t))), (4, .ref (ad 115)), (3, .ref (ad 114)), (2, .ref (ad 102)), (1, .ref (ad 0)), (0, .ref b)] → W p l e room_1 s m #[Value.ref b] below meth c H locs (cells + 1) (slots + 6) Q (F0 m 947 ls []))
  {ls : Array Slot} (hl : lv_has ls 9 [(5, .int (nI (5 * t))), (4, .ref (ad 115)), (3, .ref (ad 114)), (2, .ref (ad 102)), (1, .ref (ad 0)), (0, .ref b)]) : W p l e room_1 s m #[Value.ref b] below meth c H locs cells slots Q (F0 m 525 ls []) := by
  obtain ⟨k, v, I1, J1, X1, I2, J2, X2, f, o, j9, hf, ho, hj9, hH, hM, h14, hcmp, hv2⟩ := pk_sent l hst D cA ad K V tO tT hi hj hv (xs (5 * t + 1)) (xs (5 * t + 2)) (xs (5 * t + 3))
  refine lv_aload_n hx hb dL_law_525 rfl (lv_at hl 4 rfl) ?_
  refine lv_aload_n hx hb dL_law_526 rfl (lv_at hl 5 rfl) ?_
  refine lv_iload hx hb dL_law_527 (lv_at hl 0 rfl) ?_
  refine lv_iconst (v := 1) hx hb dL_law_529 (by decide) ?_
  refine w_iaddN (a := 5 * t) (b := 1) hx hb rfl rfl dL_law_530 ?_
  refine lw_sld hx hb hXs hbl hbA hS hL (n := 5 * t + 1) (by omega) rfl dL_law_531 ?_
  refine lv_aload_n hx hb dL_law_532 rfl (lv_at hl 5 rfl) ?_
  refine lv_iload hx hb dL_law_533 (lv_at hl 0 rfl) ?_
  refine lv_iconst (v := 2) hx hb dL_law_535 (by decide) ?_
  refine w_iaddN (a := 5 * t) (b := 2) hx hb rfl rfl dL_law_536 ?_
  refine lw_sld hx hb hXs hbl hbA hS hL (n := 5 * t + 2) (by omega) rfl dL_law_537 ?_
  refine lv_aload_n hx hb dL_law_538 rfl (lv_at hl 5 rfl) ?_
  refine lv_iload hx hb dL_law_539 (lv_at hl 0 rfl) ?_
  refine lv_iconst (v := 3) hx hb dL_law_541 (by decide) ?_
  refine w_iaddN (a := 5 * t) (b := 3) hx hb rfl rfl dL_law_542 ?_
  refine lw_sld hx hb hXs hbl hbA hS hL (n := 5 * t + 3) (by omega) rfl dL_law_543 ?_
  refine lv_aload_n hx hb dL_law_544 rfl (lv_at hl 2 rfl) ?_
  refine w_calli (vx_runSW (As := [.ref (ad 0), .int (xs (5 * t + 1)), .int (xs (5 * t + 2)), .int (xs (5 * t + 3)), .ref (ad 114)]) (rest := []) ⟨hx, hb, hml, hown, hts⟩ (hH H.size) (vx_cwSW 5 hts gL_law_L_sent rfl rfl rfl (by decide +kernel) ⟨(Nat.le_of_ble_eq_true rfl), (Nat.le_of_ble_eq_true rfl)⟩) (w_preSA hK hP hXA hS) rfl rfl hl.1 rfl (lv_room (Nat.le_of_ble_eq_true rfl)) dL_law_545 ⟨by show cells + 1 ≤ 601024; omega, by show slots + 6 ≤ 7293034; omega⟩) hS (fun H locs hP hS => ?_)
  refine lv_istore (lv' := [(6, .int k), (5, .int (nI (5 * t))), (4, .ref (ad 115)), (3, .ref (ad 114)), (2, .ref (ad 102)), (1, .ref (ad 0)), (0, .ref b)]) hx hb dL_law_548 hl (by decide) rfl (fun ls hl => ?_)
  refine lv_aload_n hx hb dL_law_550 rfl (lv_at hl 4 rfl) ?_
  refine lv_aload_n hx hb dL_law_551 rfl (lv_at hl 6 rfl) ?_
  refine lv_iload hx hb dL_law_552 (lv_at hl 1 rfl) ?_
  refine lv_iconst (v := 1) hx hb dL_law_554 (by decide) ?_
  refine w_iaddN (a := 5 * t) (b := 1) hx hb rfl rfl dL_law_555 ?_
  refine lw_sld hx hb hXs hbl hbA hS hL (n := 5 * t + 1) (by omega) rfl dL_law_556 ?_
  refine lv_aload_n hx hb dL_law_557 rfl (lv_at hl 6 rfl) ?_
  refine lv_iload hx hb dL_law_558 (lv_at hl 1 rfl) ?_
  refine lv_iconst (v := 2) hx hb dL_law_560 (by decide) ?_
  refine w_iaddN (a := 5 * t) (b := 2) hx hb rfl rfl dL_law_561 ?_
  refine lw_sld hx hb hXs hbl hbA hS hL (n := 5 * t + 2) (by omega) rfl dL_law_562 ?_
  refine lv_aload_n hx hb dL_law_563 rfl (lv_at hl 6 rfl) ?_
  refine lv_iload hx hb dL_law_564 (lv_at hl 1 rfl) ?_
  refine lv_iconst (v := 3) hx hb dL_law_566 (by decide) ?_
  refine w_iaddN (a := 5 * t) (b := 3) hx hb rfl rfl dL_law_567 ?_
  refine lw_sld hx hb hXs hbl hbA hS hL (n := 5 * t + 3) (by omega) rfl dL_law_568 ?_
  refine w_calli (va_runV (As := [.int (xs (5 * t + 1)), .int (xs (5 * t + 2)), .int (xs (5 * t + 3))]) (rest := []) ⟨hx, hb, hml, hown, hts⟩ (hM H.size) (cwV 3 hts gL_law_X5_sent rfl rfl rfl (by decide +kernel) ⟨by show f + 1 ≤ 2048; omega, by show 8 + (4 + 11) + o ≤ 84000; omega⟩) (w_preVA hK hP hXA hS 102 (by decide) ⟨rfl, rfl⟩ rfl) rfl rfl hl.1 rfl (lv_room (Nat.le_of_ble_eq_true rfl)) dL_law_569 ⟨by show cells + 1 + 0 ≤ 601024; omega, by show slots + 6 + 0 ≤ 7293034; omega⟩) hS (fun H locs hP hS => ?_)
  refine lv_istore (lv' := [(7, .int v), (6, .int k), (5, .int (nI (5 * t))), (4, .ref (ad 115)), (3, .ref (ad 114)), (2, .ref (ad 102)), (1, .ref (ad 0)), (0, .ref b)]) hx hb dL_law_572 hl (by decide) rfl (fun ls hl => ?_)
  refine lv_aload_n hx hb dL_law_574 rfl (lv_at hl 5 rfl) ?_
  refine w_calli (va_runV (As := []) (rest := []) ⟨hx, hb, hml, hown, hts⟩ (c_X5_thrown l 116 D cA ad hi (by decide) I2 J2 X2 H.size) (cwV 0 hts gL_law_X5_thrown rfl rfl rfl (by decide +kernel) ⟨(Nat.le_of_ble_eq_true rfl), (Nat.le_of_ble_eq_true rfl)⟩) (w_preV hK hP 102 (by decide) ⟨rfl, rfl⟩ rfl) rfl rfl hl.1 rfl (lv_room (Nat.le_of_ble_eq_true rfl)) dL_law_575 ⟨by show cells + 1 + 0 + 0 ≤ 601024; omega, by show slots + 6 + 0 + 0 ≤ 7293034; omega⟩) hS (fun H locs hP hS => ?_)
  rw [h14]
  refine lv_iload hx hb dL_law_578 (lv_at hl 1 rfl) ?_
  refine lv_icmp_eq (tgt := 585) hx hb dL_law_580 (by decide) (fun _ => ?_) (fun z => absurd rfl z)
  refine lv_iload hx hb dL_law_585 (lv_at hl 1 rfl) ?_
  refine lv_if_ne (tgt := 602) hx hb dL_law_587 (by decide) (fun _ => ?_) (fun hk0 => ?_)
  · skip
    refine lv_goto (tgt := 947) hx hb dL_law_602 (by decide) ?_
    exact kx j9 _ _ _ _ _ _ hj9 hv2 hP hS (lv_sub hl [2, 3, 4, 5, 6, 7] rfl)
  · skip
    refine lv_aload_n hx hb dL_law_590 rfl (lv_at hl 4 rfl) ?_
    refine lv_iconst (v := 0) hx hb dL_law_591 (by decide) ?_
    refine w_lald hx hb hK hP 114 0 ⟨rfl, by decide⟩ (by decide) rfl dL_law_592 ?_
    refine lv_iload hx hb dL_law_593 (lv_at hl 0 rfl) ?_
    refine lv_i2l (v := v.toInt64) hx hb dL_law_595 rfl ?_
    refine W.lcmp hx hb dL_law_596 ?_
    refine lv_if_eq (tgt := 602) hx hb dL_law_597 (by decide) (fun _ => ?_) (fun z => absurd ((lg_cmp_eq _ _).mpr (hcmp hk0)) z)
    refine lv_goto (tgt := 947) hx hb dL_law_602 (by decide) ?_
    exact kx j9 _ _ _ _ _ _ hj9 hv2 hP hS (lv_sub hl [2, 3, 4, 5, 6, 7] rfl)

set_option maxHeartbeats 800000 in
set_option maxRecDepth 100000 in
theorem law_c8 {p : Program} {e : Env} {s : State} {m : MethodId} {below : List Frame} {meth : Method} {c : Code} (l : Launch) (hst : l.stackTraces = false) {b L : Nat} {xs : Nat → Int32} (hL : L ≤ 2560) (hx : p.tables.exec = Jvm.exec) (hb : c.code = cL_law) (hml : c.maxLocals = 9) (hown : s.vm.findClass RL = some m.cls) (hts : ∀ w ∈ wsL_law, w.before #[Value.ref b] s = true) (hXs : va_X b L xs s s.heap) (hbl : b < s.heap.size) {D : va_G} {cA : Nat → ClassId} {ad K V : Nat → Nat} {tO tT : Nat} (hi : inj 116 ad) (hbA : ¬ fr 116 ad s.heap.size b) (hK : WK D cA s) (hXA : XA ad K V tO tT s.heap.size s) {j : Nat} (hj : j < 513) {I : SI} {J : SJ} {X : SX} (hv : Inv2 j I J X) {t : Nat} (ht : 5 * t + 5 ≤ L) {H : Heap} {locs : List Loc} {cells slots : Nat} {Q : State → Prop} (hce : cells + 1 ≤ 601024) (hsl : slots + 6 ≤ 7293034) (hP : WP 116 D cA ad I J X H) (hS : va_S (fr 116 ad s.heap.size) s.heap H locs)
  (kx : ∀ (j' : Nat) (I : SI) (J : SJ) (X : SX) (H : Heap) (locs : List Loc) (ls : Array Slot), j' ≤ j + 1 → Inv2 j' I J X → WP 116 D cA ad I J X H → va_S (fr 116 ad s.heap.size) s.heap H locs → lv_has ls 9 [(5, .int (nI (5 * t))), (4, .ref (ad 115)), (3, .ref (ad 114)), (2, .ref (ad 102)), (1, .ref (ad 0)), (0, .ref b)] → W p l e room_1 s m #[Value.ref b] below meth c H locs (cells + 1) (slots + 6) Q (F0 m 947 ls []))
  {ls : Array Slot} (hl : lv_has ls 9 [(5, .int (nI (5 * t))), (4, .ref (ad 115)), (3, .ref (ad 114)), (2, .ref (ad 102)), (1, .ref (ad 0)), (0, .ref b)]) : W p l e room_1 s m #[Value.ref b] below meth c H locs cells slots Q (F0 m 605 ls []) := by
  obtain ⟨v, I1, J1, X1, I2, J2, X2, f1, o1, f2, o2, j9, hf1, ho1, hf2, ho2, hj9, hC, hM, hv2⟩ := pk_pushes l hst D cA ad K V tO tT hi hj hv
  refine lv_aload_n hx hb dL_law_605 rfl (lv_at hl 4 rfl) ?_
  refine w_calli (va_runV (As := []) (rest := []) ⟨hx, hb, hml, hown, hts⟩ (hC H.size) (cwV 0 hts gL_law_X4_pushes rfl rfl rfl (by decide +kernel) ⟨by show f1 + 1 ≤ 2048; omega, by show 8 + (3 + 11) + o1 ≤ 84000; omega⟩) (w_preVA hK hP hXA hS 0 (by decide) ⟨rfl, rfl⟩ rfl) rfl rfl hl.1 rfl (lv_room (Nat.le_of_ble_eq_true rfl)) dL_law_606 ⟨by show cells + 0 ≤ 601024; omega, by show slots + 0 ≤ 7293034; omega⟩) hS (fun H locs hP hS => ?_)
  refine lv_aload_n hx hb dL_law_609 rfl (lv_at hl 3 rfl) ?_
  refine w_calli (va_runV (As := []) (rest := [.int v]) ⟨hx, hb, hml, hown, hts⟩ (hM H.size) (cwV 0 hts gL_law_X5_pushes rfl rfl rfl (by decide +kernel) ⟨by show f2 + 1 ≤ 2048; omega, by show 8 + (1 + 11) + o2 ≤ 84000; omega⟩) (w_preVA hK hP hXA hS 102 (by decide) ⟨rfl, rfl⟩ rfl) rfl rfl hl.1 rfl (lv_room (Nat.le_of_ble_eq_true rfl)) dL_law_610 ⟨by show cells + 0 + 0 ≤ 601024; omega, by show slots + 0 + 0 ≤ 7293034; omega⟩) hS (fun H locs hP hS => ?_)
  refine lv_icmp_eq (tgt := 947) hx hb dL_law_613 (by decide) (fun _ => ?_) (fun z => absurd rfl z)
  refine W.widen (k := cells + 1) (n := slots + 6) (by omega) (by omega) ?_
  exact kx j9 _ _ _ _ _ _ hj9 hv2 hP hS (lv_sub hl [0, 1, 2, 3, 4, 5] rfl)

set_option maxHeartbeats 800000 in
set_option maxRecDepth 100000 in
theorem law_c9 {p : Program} {e : Env} {s : State} {m : MethodId} {below : List Frame} {meth : Method} {c : Code} (l : Launch) (hst : l.stackTraces = false) {b L : Nat} {xs : Nat → Int32} (hL : L ≤ 2560) (hx : p.tables.exec = Jvm.exec) (hb : c.code = cL_law) (hml : c.maxLocals = 9) (hown : s.vm.findClass RL = some m.cls) (hts : ∀ w ∈ wsL_law, w.before #[Value.ref b] s = true) (hXs : va_X b L xs s s.heap) (hbl : b < s.heap.size) {D : va_G} {cA : Nat → ClassId} {ad K V : Nat → Nat} {tO tT : Nat} (hi : inj 116 ad) (hbA : ¬ fr 116 ad s.heap.size b) (hK : WK D cA s) (hXA : XA ad K V tO tT s.heap.size s) {j : Nat} (hj : j < 513) {I : SI} {J : SJ} {X : SX} (hv : Inv2 j I J X) {t : Nat} (ht : 5 * t + 5 ≤ L) {H : Heap} {locs : List Loc} {cells slots : Nat} {Q : State → Prop} (hce : cells + 1 ≤ 601024) (hsl : slots + 6 ≤ 7293034) (hP : WP 116 D cA ad I J X H) (hS : va_S (fr 116 ad s.heap.size) s.heap H locs)
  (kx : ∀ (j' : Nat) (I : SI) (J : SJ) (X : SX) (H : Heap) (locs : List Loc) (ls : Array Slot), j' ≤ j + 1 → Inv2 j' I J X → WP 116 D cA ad I J X H → va_S (fr 116 ad s.heap.size) s.heap H locs → lv_has ls 9 [(5, .int (nI (5 * t))), (4, .ref (ad 115)), (3, .ref (ad 114)), (2, .ref (ad 102)), (1, .ref (ad 0)), (0, .ref b)] → W p l e room_1 s m #[Value.ref b] below meth c H locs (cells + 1) (slots + 6) Q (F0 m 947 ls []))
  {ls : Array Slot} (hl : lv_has ls 9 [(5, .int (nI (5 * t))), (4, .ref (ad 115)), (3, .ref (ad 114)), (2, .ref (ad 102)), (1, .ref (ad 0)), (0, .ref b)]) : W p l e room_1 s m #[Value.ref b] below meth c H locs cells slots Q (F0 m 618 ls []) := by
  obtain ⟨k, v, I1, J1, X1, I2, J2, X2, f, o, j9, hf, ho, hj9, hH, hM, h14, hcmp, hv2⟩ := pk_listed l hst D cA ad K V tO tT hi hj hv (xs (5 * t + 1)) (xs (5 * t + 2))
  refine lv_aload_n hx hb dL_law_618 rfl (lv_at hl 4 rfl) ?_
  refine lv_aload_n hx hb dL_law_619 rfl (lv_at hl 5 rfl) ?_
  refine lv_iload hx hb dL_law_620 (lv_at hl 0 rfl) ?_
  refine lv_iconst (v := 1) hx hb dL_law_622 (by decide) ?_
  refine w_iaddN (a := 5 * t) (b := 1) hx hb rfl rfl dL_law_623 ?_
  refine lw_sld hx hb hXs hbl hbA hS hL (n := 5 * t + 1) (by omega) rfl dL_law_624 ?_
  refine lv_aload_n hx hb dL_law_625 rfl (lv_at hl 5 rfl) ?_
  refine lv_iload hx hb dL_law_626 (lv_at hl 0 rfl) ?_
  refine lv_iconst (v := 2) hx hb dL_law_628 (by decide) ?_
  refine w_iaddN (a := 5 * t) (b := 2) hx hb rfl rfl dL_law_629 ?_
  refine lw_sld hx hb hXs hbl hbA hS hL (n := 5 * t + 2) (by omega) rfl dL_law_630 ?_
  refine lv_aload_n hx hb dL_law_631 rfl (lv_at hl 2 rfl) ?_
  refine w_calli (vx_runSW (As := [.ref (ad 0), .int (xs (5 * t + 1)), .int (xs (5 * t + 2)), .ref (ad 114)]) (rest := []) ⟨hx, hb, hml, hown, hts⟩ (hH H.size) (vx_cwSW 4 hts gL_law_L_listed rfl rfl rfl (by decide +kernel) ⟨(Nat.le_of_ble_eq_true rfl), (Nat.le_of_ble_eq_true rfl)⟩) (w_preSA hK hP hXA hS) rfl rfl hl.1 rfl (lv_room (Nat.le_of_ble_eq_true rfl)) dL_law_632 ⟨by show cells + 1 ≤ 601024; omega, by show slots + 6 ≤ 7293034; omega⟩) hS (fun H locs hP hS => ?_)
  refine lv_istore (lv' := [(6, .int k), (5, .int (nI (5 * t))), (4, .ref (ad 115)), (3, .ref (ad 114)), (2, .ref (ad 102)), (1, .ref (ad 0)), (0, .ref b)]) hx hb dL_law_635 hl (by decide) rfl (fun ls hl => ?_)
  refine lv_aload_n hx hb dL_law_637 rfl (lv_at hl 4 rfl) ?_
  refine lv_aload_n hx hb dL_law_638 rfl (lv_at hl 6 rfl) ?_
  refine lv_iload hx hb dL_law_639 (lv_at hl 1 rfl) ?_
  refine lv_iconst (v := 1) hx hb dL_law_641 (by decide) ?_
  refine w_iaddN (a := 5 * t) (b := 1) hx hb rfl rfl dL_law_642 ?_
  refine lw_sld hx hb hXs hbl hbA hS hL (n := 5 * t + 1) (by omega) rfl dL_law_643 ?_
  refine lv_aload_n hx hb dL_law_644 rfl (lv_at hl 6 rfl) ?_
  refine lv_iload hx hb dL_law_645 (lv_at hl 1 rfl) ?_
  refine lv_iconst (v := 2) hx hb dL_law_647 (by decide) ?_
  refine w_iaddN (a := 5 * t) (b := 2) hx hb rfl rfl dL_law_648 ?_
  refine lw_sld hx hb hXs hbl hbA hS hL (n := 5 * t + 2) (by omega) rfl dL_law_649 ?_
  refine w_calli (va_runV (As := [.int (xs (5 * t + 1)), .int (xs (5 * t + 2))]) (rest := []) ⟨hx, hb, hml, hown, hts⟩ (hM H.size) (cwV 2 hts gL_law_X5_listed rfl rfl rfl (by decide +kernel) ⟨by show f + 1 ≤ 2048; omega, by show 8 + (4 + 11) + o ≤ 84000; omega⟩) (w_preVA hK hP hXA hS 102 (by decide) ⟨rfl, rfl⟩ rfl) rfl rfl hl.1 rfl (lv_room (Nat.le_of_ble_eq_true rfl)) dL_law_650 ⟨by show cells + 1 + 0 ≤ 601024; omega, by show slots + 6 + 0 ≤ 7293034; omega⟩) hS (fun H locs hP hS => ?_)
  refine lv_istore (lv' := [(7, .int v), (6, .int k), (5, .int (nI (5 * t))), (4, .ref (ad 115)), (3, .ref (ad 114)), (2, .ref (ad 102)), (1, .ref (ad 0)), (0, .ref b)]) hx hb dL_law_653 hl (by decide) rfl (fun ls hl => ?_)
  refine lv_aload_n hx hb dL_law_655 rfl (lv_at hl 5 rfl) ?_
  refine w_calli (va_runV (As := []) (rest := []) ⟨hx, hb, hml, hown, hts⟩ (c_X5_thrown l 116 D cA ad hi (by decide) I2 J2 X2 H.size) (cwV 0 hts gL_law_X5_thrown rfl rfl rfl (by decide +kernel) ⟨(Nat.le_of_ble_eq_true rfl), (Nat.le_of_ble_eq_true rfl)⟩) (w_preV hK hP 102 (by decide) ⟨rfl, rfl⟩ rfl) rfl rfl hl.1 rfl (lv_room (Nat.le_of_ble_eq_true rfl)) dL_law_656 ⟨by show cells + 1 + 0 + 0 ≤ 601024; omega, by show slots + 6 + 0 + 0 ≤ 7293034; omega⟩) hS (fun H locs hP hS => ?_)
  rw [h14]
  refine lv_iload hx hb dL_law_659 (lv_at hl 1 rfl) ?_
  refine lv_icmp_eq (tgt := 666) hx hb dL_law_661 (by decide) (fun _ => ?_) (fun z => absurd rfl z)
  refine lv_iload hx hb dL_law_666 (lv_at hl 1 rfl) ?_
  refine lv_if_ne (tgt := 683) hx hb dL_law_668 (by decide) (fun _ => ?_) (fun hk0 => ?_)
  · skip
    refine lv_goto (tgt := 947) hx hb dL_law_683 (by decide) ?_
    exact kx j9 _ _ _ _ _ _ hj9 hv2 hP hS (lv_sub hl [2, 3, 4, 5, 6, 7] rfl)
  · skip
    refine lv_aload_n hx hb dL_law_671 rfl (lv_at hl 4 rfl) ?_
    refine lv_iconst (v := 0) hx hb dL_law_672 (by decide) ?_
    refine w_lald hx hb hK hP 114 0 ⟨rfl, by decide⟩ (by decide) rfl dL_law_673 ?_
    refine lv_iload hx hb dL_law_674 (lv_at hl 0 rfl) ?_
    refine lv_i2l (v := v.toInt64) hx hb dL_law_676 rfl ?_
    refine W.lcmp hx hb dL_law_677 ?_
    refine lv_if_eq (tgt := 683) hx hb dL_law_678 (by decide) (fun _ => ?_) (fun z => absurd ((lg_cmp_eq _ _).mpr (hcmp hk0)) z)
    refine lv_goto (tgt := 947) hx hb dL_law_683 (by decide) ?_
    exact kx j9 _ _ _ _ _ _ hj9 hv2 hP hS (lv_sub hl [2, 3, 4, 5, 6, 7] rfl)

set_option maxHeartbeats 800000 in
set_option maxRecDepth 100000 in
theorem law_c10 {p : Program} {e : Env} {s : State} {m : MethodId} {below : List Frame} {meth : Method} {c : Code} (l : Launch) (hst : l.stackTraces = false) {b L : Nat} {xs : Nat → Int32} (hL : L ≤ 2560) (hx : p.tables.exec = Jvm.exec) (hb : c.code = cL_law) (hml : c.maxLocals = 9) (hown : s.vm.findClass RL = some m.cls) (hts : ∀ w ∈ wsL_law, w.before #[Value.ref b] s = true) (hXs : va_X b L xs s s.heap) (hbl : b < s.heap.size) {D : va_G} {cA : Nat → ClassId} {ad K V : Nat → Nat} {tO tT : Nat} (hi : inj 116 ad) (hbA : ¬ fr 116 ad s.heap.size b) (hK : WK D cA s) (hXA : XA ad K V tO tT s.heap.size s) {j : Nat} (hj : j < 513) {I : SI} {J : SJ} {X : SX} (hv : Inv2 j I J X) {t : Nat} (ht : 5 * t + 5 ≤ L) {H : Heap} {locs : List Loc} {cells slots : Nat} {Q : State → Prop} (hce : cells + 1 ≤ 601024) (hsl : slots + 6 ≤ 7293034) (hP : WP 116 D cA ad I J X H) (hS : va_S (fr 116 ad s.heap.size) s.heap H locs)
  (kx : ∀ (j' : Nat) (I : SI) (J : SJ) (X : SX) (H : Heap) (locs : List Loc) (ls : Array Slot), j' ≤ j + 1 → Inv2 j' I J X → WP 116 D cA ad I J X H → va_S (fr 116 ad s.heap.size) s.heap H locs → lv_has ls 9 [(5, .int (nI (5 * t))), (4, .ref (ad 115)), (3, .ref (ad 114)), (2, .ref (ad 102)), (1, .ref (ad 0)), (0, .ref b)] → W p l e room_1 s m #[Value.ref b] below meth c H locs (cells + 1) (slots + 6) Q (F0 m 947 ls []))
  {ls : Array Slot} (hl : lv_has ls 9 [(5, .int (nI (5 * t))), (4, .ref (ad 115)), (3, .ref (ad 114)), (2, .ref (ad 102)), (1, .ref (ad 0)), (0, .ref b)]) : W p l e room_1 s m #[Value.ref b] below meth c H locs cells slots Q (F0 m 686 ls []) := by
  obtain ⟨k, v, I1, J1, X1, I2, J2, X2, f, o, j9, hf, ho, hj9, hH, hM, h14, hcmp, hv2⟩ := pk_way l hst D cA ad K V tO tT hi hj hv (xs (5 * t + 1)) (xs (5 * t + 2)) (xs (5 * t + 3)) (xs (5 * t + 4))
  refine lv_aload_n hx hb dL_law_686 rfl (lv_at hl 4 rfl) ?_
  refine lv_aload_n hx hb dL_law_687 rfl (lv_at hl 5 rfl) ?_
  refine lv_iload hx hb dL_law_688 (lv_at hl 0 rfl) ?_
  refine lv_iconst (v := 1) hx hb dL_law_690 (by decide) ?_
  refine w_iaddN (a := 5 * t) (b := 1) hx hb rfl rfl dL_law_691 ?_
  refine lw_sld hx hb hXs hbl hbA hS hL (n := 5 * t + 1) (by omega) rfl dL_law_692 ?_
  refine lv_aload_n hx hb dL_law_693 rfl (lv_at hl 5 rfl) ?_
  refine lv_iload hx hb dL_law_694 (lv_at hl 0 rfl) ?_
  refine lv_iconst (v := 2) hx hb dL_law_696 (by decide) ?_
  refine w_iaddN (a := 5 * t) (b := 2) hx hb rfl rfl dL_law_697 ?_
  refine lw_sld hx hb hXs hbl hbA hS hL (n := 5 * t + 2) (by omega) rfl dL_law_698 ?_
  refine lv_aload_n hx hb dL_law_699 rfl (lv_at hl 5 rfl) ?_
  refine lv_iload hx hb dL_law_700 (lv_at hl 0 rfl) ?_
  refine lv_iconst (v := 3) hx hb dL_law_702 (by decide) ?_
  refine w_iaddN (a := 5 * t) (b := 3) hx hb rfl rfl dL_law_703 ?_
  refine lw_sld hx hb hXs hbl hbA hS hL (n := 5 * t + 3) (by omega) rfl dL_law_704 ?_
  refine lv_aload_n hx hb dL_law_705 rfl (lv_at hl 5 rfl) ?_
  refine lv_iload hx hb dL_law_706 (lv_at hl 0 rfl) ?_
  refine lv_iconst (v := 4) hx hb dL_law_708 (by decide) ?_
  refine w_iaddN (a := 5 * t) (b := 4) hx hb rfl rfl dL_law_709 ?_
  refine lw_sld hx hb hXs hbl hbA hS hL (n := 5 * t + 4) (by omega) rfl dL_law_710 ?_
  refine lv_aload_n hx hb dL_law_711 rfl (lv_at hl 2 rfl) ?_
  refine w_calli (vx_runSW (As := [.ref (ad 0), .int (xs (5 * t + 1)), .int (xs (5 * t + 2)), .int (xs (5 * t + 3)), .int (xs (5 * t + 4)), .ref (ad 114)]) (rest := []) ⟨hx, hb, hml, hown, hts⟩ (hH H.size) (vx_cwSW 6 hts gL_law_L_way rfl rfl rfl (by decide +kernel) ⟨(Nat.le_of_ble_eq_true rfl), (Nat.le_of_ble_eq_true rfl)⟩) (w_preSA hK hP hXA hS) rfl rfl hl.1 rfl (lv_room (Nat.le_of_ble_eq_true rfl)) dL_law_712 ⟨by show cells + 1 ≤ 601024; omega, by show slots + 6 ≤ 7293034; omega⟩) hS (fun H locs hP hS => ?_)
  refine lv_istore (lv' := [(6, .int k), (5, .int (nI (5 * t))), (4, .ref (ad 115)), (3, .ref (ad 114)), (2, .ref (ad 102)), (1, .ref (ad 0)), (0, .ref b)]) hx hb dL_law_715 hl (by decide) rfl (fun ls hl => ?_)
  refine lv_aload_n hx hb dL_law_717 rfl (lv_at hl 4 rfl) ?_
  refine lv_aload_n hx hb dL_law_718 rfl (lv_at hl 6 rfl) ?_
  refine lv_iload hx hb dL_law_719 (lv_at hl 1 rfl) ?_
  refine lv_iconst (v := 1) hx hb dL_law_721 (by decide) ?_
  refine w_iaddN (a := 5 * t) (b := 1) hx hb rfl rfl dL_law_722 ?_
  refine lw_sld hx hb hXs hbl hbA hS hL (n := 5 * t + 1) (by omega) rfl dL_law_723 ?_
  refine lv_aload_n hx hb dL_law_724 rfl (lv_at hl 6 rfl) ?_
  refine lv_iload hx hb dL_law_725 (lv_at hl 1 rfl) ?_
  refine lv_iconst (v := 2) hx hb dL_law_727 (by decide) ?_
  refine w_iaddN (a := 5 * t) (b := 2) hx hb rfl rfl dL_law_728 ?_
  refine lw_sld hx hb hXs hbl hbA hS hL (n := 5 * t + 2) (by omega) rfl dL_law_729 ?_
  refine lv_aload_n hx hb dL_law_730 rfl (lv_at hl 6 rfl) ?_
  refine lv_iload hx hb dL_law_731 (lv_at hl 1 rfl) ?_
  refine lv_iconst (v := 3) hx hb dL_law_733 (by decide) ?_
  refine w_iaddN (a := 5 * t) (b := 3) hx hb rfl rfl dL_law_734 ?_
  refine lw_sld hx hb hXs hbl hbA hS hL (n := 5 * t + 3) (by omega) rfl dL_law_735 ?_
  refine lv_aload_n hx hb dL_law_736 rfl (lv_at hl 6 rfl) ?_
  refine lv_iload hx hb dL_law_737 (lv_at hl 1 rfl) ?_
  refine lv_iconst (v := 4) hx hb dL_law_739 (by decide) ?_
  refine w_iaddN (a := 5 * t) (b := 4) hx hb rfl rfl dL_law_740 ?_
  refine lw_sld hx hb hXs hbl hbA hS hL (n := 5 * t + 4) (by omega) rfl dL_law_741 ?_
  refine w_calli (va_runV (As := [.int (xs (5 * t + 1)), .int (xs (5 * t + 2)), .int (xs (5 * t + 3)), .int (xs (5 * t + 4))]) (rest := []) ⟨hx, hb, hml, hown, hts⟩ (hM H.size) (cwV 4 hts gL_law_X5_way rfl rfl rfl (by decide +kernel) ⟨by show f + 1 ≤ 2048; omega, by show 8 + (9 + 11) + o ≤ 84000; omega⟩) (w_preVA hK hP hXA hS 102 (by decide) ⟨rfl, rfl⟩ rfl) rfl rfl hl.1 rfl (lv_room (Nat.le_of_ble_eq_true rfl)) dL_law_742 ⟨by show cells + 1 + 0 ≤ 601024; omega, by show slots + 6 + 0 ≤ 7293034; omega⟩) hS (fun H locs hP hS => ?_)
  refine lv_istore (lv' := [(7, .int v), (6, .int k), (5, .int (nI (5 * t))), (4, .ref (ad 115)), (3, .ref (ad 114)), (2, .ref (ad 102)), (1, .ref (ad 0)), (0, .ref b)]) hx hb dL_law_745 hl (by decide) rfl (fun ls hl => ?_)
  refine lv_aload_n hx hb dL_law_747 rfl (lv_at hl 5 rfl) ?_
  refine w_calli (va_runV (As := []) (rest := []) ⟨hx, hb, hml, hown, hts⟩ (c_X5_thrown l 116 D cA ad hi (by decide) I2 J2 X2 H.size) (cwV 0 hts gL_law_X5_thrown rfl rfl rfl (by decide +kernel) ⟨(Nat.le_of_ble_eq_true rfl), (Nat.le_of_ble_eq_true rfl)⟩) (w_preV hK hP 102 (by decide) ⟨rfl, rfl⟩ rfl) rfl rfl hl.1 rfl (lv_room (Nat.le_of_ble_eq_true rfl)) dL_law_748 ⟨by show cells + 1 + 0 + 0 ≤ 601024; omega, by show slots + 6 + 0 + 0 ≤ 7293034; omega⟩) hS (fun H locs hP hS => ?_)
  rw [h14]
  refine lv_iload hx hb dL_law_751 (lv_at hl 1 rfl) ?_
  refine lv_icmp_eq (tgt := 758) hx hb dL_law_753 (by decide) (fun _ => ?_) (fun z => absurd rfl z)
  refine lv_iload hx hb dL_law_758 (lv_at hl 1 rfl) ?_
  refine lv_if_ne (tgt := 775) hx hb dL_law_760 (by decide) (fun _ => ?_) (fun hk0 => ?_)
  · skip
    refine lv_goto (tgt := 947) hx hb dL_law_775 (by decide) ?_
    exact kx j9 _ _ _ _ _ _ hj9 hv2 hP hS (lv_sub hl [2, 3, 4, 5, 6, 7] rfl)
  · skip
    refine lv_aload_n hx hb dL_law_763 rfl (lv_at hl 4 rfl) ?_
    refine lv_iconst (v := 0) hx hb dL_law_764 (by decide) ?_
    refine w_lald hx hb hK hP 114 0 ⟨rfl, by decide⟩ (by decide) rfl dL_law_765 ?_
    refine lv_iload hx hb dL_law_766 (lv_at hl 0 rfl) ?_
    refine lv_i2l (v := v.toInt64) hx hb dL_law_768 rfl ?_
    refine W.lcmp hx hb dL_law_769 ?_
    refine lv_if_eq (tgt := 775) hx hb dL_law_770 (by decide) (fun _ => ?_) (fun z => absurd ((lg_cmp_eq _ _).mpr (hcmp hk0)) z)
    refine lv_goto (tgt := 947) hx hb dL_law_775 (by decide) ?_
    exact kx j9 _ _ _ _ _ _ hj9 hv2 hP hS (lv_sub hl [2, 3, 4, 5, 6, 7] rfl)

set_option maxHeartbeats 800000 in
set_option maxRecDepth 100000 in
theorem law_c11 {p : Program} {e : Env} {s : State} {m : MethodId} {below : List Frame} {meth : Method} {c : Code} (l : Launch) (hst : l.stackTraces = false) {b L : Nat} {xs : Nat → Int32} (hL : L ≤ 2560) (hx : p.tables.exec = Jvm.exec) (hb : c.code = cL_law) (hml : c.maxLocals = 9) (hown : s.vm.findClass RL = some m.cls) (hts : ∀ w ∈ wsL_law, w.before #[Value.ref b] s = true) (hXs : va_X b L xs s s.heap) (hbl : b < s.heap.size) {D : va_G} {cA : Nat → ClassId} {ad K V : Nat → Nat} {tO tT : Nat} (hi : inj 116 ad) (hbA : ¬ fr 116 ad s.heap.size b) (hK : WK D cA s) (hXA : XA ad K V tO tT s.heap.size s) {j : Nat} (hj : j < 513) {I : SI} {J : SJ} {X : SX} (hv : Inv2 j I J X) {t : Nat} (ht : 5 * t + 5 ≤ L) {H : Heap} {locs : List Loc} {cells slots : Nat} {Q : State → Prop} (hce : cells + 1 ≤ 601024) (hsl : slots + 6 ≤ 7293034) (hP : WP 116 D cA ad I J X H) (hS : va_S (fr 116 ad s.heap.size) s.heap H locs)
  (kx : ∀ (j' : Nat) (I : SI) (J : SJ) (X : SX) (H : Heap) (locs : List Loc) (ls : Array Slot), j' ≤ j + 1 → Inv2 j' I J X → WP 116 D cA ad I J X H → va_S (fr 116 ad s.heap.size) s.heap H locs → lv_has ls 9 [(5, .int (nI (5 * t))), (4, .ref (ad 115)), (3, .ref (ad 114)), (2, .ref (ad 102)), (1, .ref (ad 0)), (0, .ref b)] → W p l e room_1 s m #[Value.ref b] below meth c H locs (cells + 1) (slots + 6) Q (F0 m 947 ls []))
  {ls : Array Slot} (hl : lv_has ls 9 [(5, .int (nI (5 * t))), (4, .ref (ad 115)), (3, .ref (ad 114)), (2, .ref (ad 102)), (1, .ref (ad 0)), (0, .ref b)]) : W p l e room_1 s m #[Value.ref b] below meth c H locs cells slots Q (F0 m 778 ls []) := by
  obtain ⟨k, v, I1, J1, X1, I2, J2, X2, f, o, j9, hf, ho, hj9, hH, hM, h14, hcmp, hv2⟩ := pk_share l hst D cA ad K V tO tT hi hj hv (xs (5 * t + 1)) (xs (5 * t + 2))
  refine lv_aload_n hx hb dL_law_778 rfl (lv_at hl 4 rfl) ?_
  refine lv_aload_n hx hb dL_law_779 rfl (lv_at hl 5 rfl) ?_
  refine lv_iload hx hb dL_law_780 (lv_at hl 0 rfl) ?_
  refine lv_iconst (v := 1) hx hb dL_law_782 (by decide) ?_
  refine w_iaddN (a := 5 * t) (b := 1) hx hb rfl rfl dL_law_783 ?_
  refine lw_sld hx hb hXs hbl hbA hS hL (n := 5 * t + 1) (by omega) rfl dL_law_784 ?_
  refine lv_aload_n hx hb dL_law_785 rfl (lv_at hl 5 rfl) ?_
  refine lv_iload hx hb dL_law_786 (lv_at hl 0 rfl) ?_
  refine lv_iconst (v := 2) hx hb dL_law_788 (by decide) ?_
  refine w_iaddN (a := 5 * t) (b := 2) hx hb rfl rfl dL_law_789 ?_
  refine lw_sld hx hb hXs hbl hbA hS hL (n := 5 * t + 2) (by omega) rfl dL_law_790 ?_
  refine lv_aload hx hb dL_law_791 (lv_at hl 1 rfl) ?_
  refine w_calli (vx_runSW (As := [.ref (ad 0), .int (xs (5 * t + 1)), .int (xs (5 * t + 2)), .ref (ad 115)]) (rest := []) ⟨hx, hb, hml, hown, hts⟩ (hH H.size) (vx_cwSW 4 hts gL_law_L_share rfl rfl rfl (by decide +kernel) ⟨(Nat.le_of_ble_eq_true rfl), (Nat.le_of_ble_eq_true rfl)⟩) (w_preSA hK hP hXA hS) rfl rfl hl.1 rfl (lv_room (Nat.le_of_ble_eq_true rfl)) dL_law_793 ⟨by show cells + 1 ≤ 601024; omega, by show slots + 6 ≤ 7293034; omega⟩) hS (fun H locs hP hS => ?_)
  refine lv_istore (lv' := [(6, .int k), (5, .int (nI (5 * t))), (4, .ref (ad 115)), (3, .ref (ad 114)), (2, .ref (ad 102)), (1, .ref (ad 0)), (0, .ref b)]) hx hb dL_law_796 hl (by decide) rfl (fun ls hl => ?_)
  refine lv_aload_n hx hb dL_law_798 rfl (lv_at hl 4 rfl) ?_
  refine lv_aload_n hx hb dL_law_799 rfl (lv_at hl 6 rfl) ?_
  refine lv_iload hx hb dL_law_800 (lv_at hl 1 rfl) ?_
  refine lv_iconst (v := 1) hx hb dL_law_802 (by decide) ?_
  refine w_iaddN (a := 5 * t) (b := 1) hx hb rfl rfl dL_law_803 ?_
  refine lw_sld hx hb hXs hbl hbA hS hL (n := 5 * t + 1) (by omega) rfl dL_law_804 ?_
  refine lv_aload_n hx hb dL_law_805 rfl (lv_at hl 6 rfl) ?_
  refine lv_iload hx hb dL_law_806 (lv_at hl 1 rfl) ?_
  refine lv_iconst (v := 2) hx hb dL_law_808 (by decide) ?_
  refine w_iaddN (a := 5 * t) (b := 2) hx hb rfl rfl dL_law_809 ?_
  refine lw_sld hx hb hXs hbl hbA hS hL (n := 5 * t + 2) (by omega) rfl dL_law_810 ?_
  refine w_calld (va_runV (As := [.int (xs (5 * t + 1)), .int (xs (5 * t + 2))]) (rest := []) ⟨hx, hb, hml, hown, hts⟩ (hM H.size) (cwV 2 hts gL_law_X5_share rfl rfl rfl (by decide +kernel) ⟨by show f + 1 ≤ 2048; omega, by show 8 + (10 + 11) + o ≤ 84000; omega⟩) (w_preVA hK hP hXA hS 102 (by decide) ⟨rfl, rfl⟩ rfl) rfl rfl hl.1 rfl (lv_room (Nat.le_of_ble_eq_true rfl)) dL_law_811 ⟨by show cells + 1 + 0 ≤ 601024; omega, by show slots + 6 + 0 ≤ 7293034; omega⟩) hS (fun H locs hP hS => ?_)
  refine lv_dstore (lv' := [(7, .double v), (6, .int k), (5, .int (nI (5 * t))), (4, .ref (ad 115)), (3, .ref (ad 114)), (2, .ref (ad 102)), (1, .ref (ad 0)), (0, .ref b)]) hx hb dL_law_814 hl (by decide) rfl (fun ls hl => ?_)
  refine lv_aload_n hx hb dL_law_816 rfl (lv_at hl 5 rfl) ?_
  refine w_calli (va_runV (As := []) (rest := []) ⟨hx, hb, hml, hown, hts⟩ (c_X5_thrown l 116 D cA ad hi (by decide) I2 J2 X2 H.size) (cwV 0 hts gL_law_X5_thrown rfl rfl rfl (by decide +kernel) ⟨(Nat.le_of_ble_eq_true rfl), (Nat.le_of_ble_eq_true rfl)⟩) (w_preV hK hP 102 (by decide) ⟨rfl, rfl⟩ rfl) rfl rfl hl.1 rfl (lv_room (Nat.le_of_ble_eq_true rfl)) dL_law_817 ⟨by show cells + 1 + 0 + 0 ≤ 601024; omega, by show slots + 6 + 0 + 0 ≤ 7293034; omega⟩) hS (fun H locs hP hS => ?_)
  rw [h14]
  refine lv_iload hx hb dL_law_820 (lv_at hl 1 rfl) ?_
  refine lv_icmp_eq (tgt := 827) hx hb dL_law_822 (by decide) (fun _ => ?_) (fun z => absurd rfl z)
  refine lv_iload hx hb dL_law_827 (lv_at hl 1 rfl) ?_
  refine lv_if_ne (tgt := 864) hx hb dL_law_829 (by decide) (fun _ => ?_) (fun hk0 => ?_)
  · skip
    refine lv_goto (tgt := 947) hx hb dL_law_864 (by decide) ?_
    exact kx j9 _ _ _ _ _ _ hj9 hv2 hP hS (lv_sub hl [2, 3, 4, 5, 6, 7] rfl)
  · skip
    refine lv_aload hx hb dL_law_832 (lv_at hl 3 rfl) ?_
    refine lv_iconst (v := 0) hx hb dL_law_834 (by decide) ?_
    refine w_dald hx hb hK hP 115 0 ⟨rfl, by decide⟩ (by decide) rfl dL_law_835 ?_
    rw [hcmp hk0]
    refine lv_dload hx hb dL_law_836 (lv_at hl 0 rfl) ?_
    refine lv_dcmp hx hb dL_law_838 ?_
    refine lv_if_eq (tgt := 864) hx hb dL_law_839 (by decide) (fun _ => ?_) (fun z1 => ?_)
    · skip
      refine lv_goto (tgt := 947) hx hb dL_law_864 (by decide) ?_
      exact kx j9 _ _ _ _ _ _ hj9 hv2 hP hS (lv_sub hl [2, 3, 4, 5, 6, 7] rfl)
    · skip
      refine lv_aload hx hb dL_law_842 (lv_at hl 3 rfl) ?_
      refine lv_iconst (v := 0) hx hb dL_law_844 (by decide) ?_
      refine w_dald hx hb hK hP 115 0 ⟨rfl, by decide⟩ (by decide) rfl dL_law_845 ?_
      rw [hcmp hk0]
      refine lv_aload hx hb dL_law_846 (lv_at hl 3 rfl) ?_
      refine lv_iconst (v := 0) hx hb dL_law_848 (by decide) ?_
      refine w_dald hx hb hK hP 115 0 ⟨rfl, by decide⟩ (by decide) rfl dL_law_849 ?_
      rw [hcmp hk0]
      refine lv_dcmp hx hb dL_law_850 ?_
      refine lv_if_eq (tgt := 862) hx hb dL_law_851 (by decide) (fun z => absurd z z1) (fun _ => ?_)
      refine lv_dload hx hb dL_law_854 (lv_at hl 0 rfl) ?_
      refine lv_dload hx hb dL_law_856 (lv_at hl 0 rfl) ?_
      refine lv_dcmp hx hb dL_law_858 ?_
      refine lv_if_ne (tgt := 864) hx hb dL_law_859 (by decide) (fun _ => ?_) (fun z => absurd z z1)
      refine lv_goto (tgt := 947) hx hb dL_law_864 (by decide) ?_
      exact kx j9 _ _ _ _ _ _ hj9 hv2 hP hS (lv_sub hl [2, 3, 4, 5, 6, 7] rfl)

set_option maxHeartbeats 800000 in
set_option maxRecDepth 100000 in
theorem law_c12 {p : Program} {e : Env} {s : State} {m : MethodId} {below : List Frame} {meth : Method} {c : Code} (l : Launch) (hst : l.stackTraces = false) {b L : Nat} {xs : Nat → Int32} (hL : L ≤ 2560) (hx : p.tables.exec = Jvm.exec) (hb : c.code = cL_law) (hml : c.maxLocals = 9) (hown : s.vm.findClass RL = some m.cls) (hts : ∀ w ∈ wsL_law, w.before #[Value.ref b] s = true) (hXs : va_X b L xs s s.heap) (hbl : b < s.heap.size) {D : va_G} {cA : Nat → ClassId} {ad K V : Nat → Nat} {tO tT : Nat} (hi : inj 116 ad) (hbA : ¬ fr 116 ad s.heap.size b) (hK : WK D cA s) (hXA : XA ad K V tO tT s.heap.size s) {j : Nat} (hj : j < 513) {I : SI} {J : SJ} {X : SX} (hv : Inv2 j I J X) {t : Nat} (ht : 5 * t + 5 ≤ L) {H : Heap} {locs : List Loc} {cells slots : Nat} {Q : State → Prop} (hce : cells + 1 ≤ 601024) (hsl : slots + 6 ≤ 7293034) (hP : WP 116 D cA ad I J X H) (hS : va_S (fr 116 ad s.heap.size) s.heap H locs)
  (kx : ∀ (j' : Nat) (I : SI) (J : SJ) (X : SX) (H : Heap) (locs : List Loc) (ls : Array Slot), j' ≤ j + 1 → Inv2 j' I J X → WP 116 D cA ad I J X H → va_S (fr 116 ad s.heap.size) s.heap H locs → lv_has ls 9 [(5, .int (nI (5 * t))), (4, .ref (ad 115)), (3, .ref (ad 114)), (2, .ref (ad 102)), (1, .ref (ad 0)), (0, .ref b)] → W p l e room_1 s m #[Value.ref b] below meth c H locs (cells + 1) (slots + 6) Q (F0 m 947 ls []))
  {ls : Array Slot} (hl : lv_has ls 9 [(5, .int (nI (5 * t))), (4, .ref (ad 115)), (3, .ref (ad 114)), (2, .ref (ad 102)), (1, .ref (ad 0)), (0, .ref b)]) : W p l e room_1 s m #[Value.ref b] below meth c H locs cells slots Q (F0 m 867 ls []) := by
  obtain ⟨k, v, I1, J1, X1, I2, J2, X2, f, o, j9, hf, ho, hj9, hH, hM, h14, hcmp, hv2⟩ := pk_text l hst D cA ad K V tO tT hi hj hv (xs (5 * t + 1)) (xs (5 * t + 2)) (xs (5 * t + 3))
  refine lv_aload_n hx hb dL_law_867 rfl (lv_at hl 4 rfl) ?_
  refine lv_aload_n hx hb dL_law_868 rfl (lv_at hl 5 rfl) ?_
  refine lv_iload hx hb dL_law_869 (lv_at hl 0 rfl) ?_
  refine lv_iconst (v := 1) hx hb dL_law_871 (by decide) ?_
  refine w_iaddN (a := 5 * t) (b := 1) hx hb rfl rfl dL_law_872 ?_
  refine lw_sld hx hb hXs hbl hbA hS hL (n := 5 * t + 1) (by omega) rfl dL_law_873 ?_
  refine lv_aload_n hx hb dL_law_874 rfl (lv_at hl 5 rfl) ?_
  refine lv_iload hx hb dL_law_875 (lv_at hl 0 rfl) ?_
  refine lv_iconst (v := 2) hx hb dL_law_877 (by decide) ?_
  refine w_iaddN (a := 5 * t) (b := 2) hx hb rfl rfl dL_law_878 ?_
  refine lw_sld hx hb hXs hbl hbA hS hL (n := 5 * t + 2) (by omega) rfl dL_law_879 ?_
  refine lv_aload_n hx hb dL_law_880 rfl (lv_at hl 5 rfl) ?_
  refine lv_iload hx hb dL_law_881 (lv_at hl 0 rfl) ?_
  refine lv_iconst (v := 3) hx hb dL_law_883 (by decide) ?_
  refine w_iaddN (a := 5 * t) (b := 3) hx hb rfl rfl dL_law_884 ?_
  refine lw_sld hx hb hXs hbl hbA hS hL (n := 5 * t + 3) (by omega) rfl dL_law_885 ?_
  refine lv_aload_n hx hb dL_law_886 rfl (lv_at hl 2 rfl) ?_
  refine w_calli (vx_runSW (As := [.ref (ad 0), .int (xs (5 * t + 1)), .int (xs (5 * t + 2)), .int (xs (5 * t + 3)), .ref (ad 114)]) (rest := []) ⟨hx, hb, hml, hown, hts⟩ (hH H.size) (vx_cwSW 5 hts gL_law_L_text rfl rfl rfl (by decide +kernel) ⟨(Nat.le_of_ble_eq_true rfl), (Nat.le_of_ble_eq_true rfl)⟩) (w_preSA hK hP hXA hS) rfl rfl hl.1 rfl (lv_room (Nat.le_of_ble_eq_true rfl)) dL_law_887 ⟨by show cells + 1 ≤ 601024; omega, by show slots + 6 ≤ 7293034; omega⟩) hS (fun H locs hP hS => ?_)
  refine lv_istore (lv' := [(6, .int k), (5, .int (nI (5 * t))), (4, .ref (ad 115)), (3, .ref (ad 114)), (2, .ref (ad 102)), (1, .ref (ad 0)), (0, .ref b)]) hx hb dL_law_890 hl (by decide) rfl (fun ls hl => ?_)
  refine lv_aload_n hx hb dL_law_892 rfl (lv_at hl 4 rfl) ?_
  refine lv_aload_n hx hb dL_law_893 rfl (lv_at hl 6 rfl) ?_
  refine lv_iload hx hb dL_law_894 (lv_at hl 1 rfl) ?_
  refine lv_iconst (v := 1) hx hb dL_law_896 (by decide) ?_
  refine w_iaddN (a := 5 * t) (b := 1) hx hb rfl rfl dL_law_897 ?_
  refine lw_sld hx hb hXs hbl hbA hS hL (n := 5 * t + 1) (by omega) rfl dL_law_898 ?_
  refine lv_aload_n hx hb dL_law_899 rfl (lv_at hl 6 rfl) ?_
  refine lv_iload hx hb dL_law_900 (lv_at hl 1 rfl) ?_
  refine lv_iconst (v := 2) hx hb dL_law_902 (by decide) ?_
  refine w_iaddN (a := 5 * t) (b := 2) hx hb rfl rfl dL_law_903 ?_
  refine lw_sld hx hb hXs hbl hbA hS hL (n := 5 * t + 2) (by omega) rfl dL_law_904 ?_
  refine lv_aload_n hx hb dL_law_905 rfl (lv_at hl 6 rfl) ?_
  refine lv_iload hx hb dL_law_906 (lv_at hl 1 rfl) ?_
  refine lv_iconst (v := 3) hx hb dL_law_908 (by decide) ?_
  refine w_iaddN (a := 5 * t) (b := 3) hx hb rfl rfl dL_law_909 ?_
  refine lw_sld hx hb hXs hbl hbA hS hL (n := 5 * t + 3) (by omega) rfl dL_law_910 ?_
  refine w_calli (va_runV (As := [.int (xs (5 * t + 1)), .int (xs (5 * t + 2)), .int (xs (5 * t + 3))]) (rest := []) ⟨hx, hb, hml, hown, hts⟩ (hM H.size) (cwV 3 hts gL_law_X5_text rfl rfl rfl (by decide +kernel) ⟨by show f + 1 ≤ 2048; omega, by show 8 + (6 + 11) + o ≤ 84000; omega⟩) (w_preVA hK hP hXA hS 102 (by decide) ⟨rfl, rfl⟩ rfl) rfl rfl hl.1 rfl (lv_room (Nat.le_of_ble_eq_true rfl)) dL_law_911 ⟨by show cells + 1 + 0 ≤ 601024; omega, by show slots + 6 + 0 ≤ 7293034; omega⟩) hS (fun H locs hP hS => ?_)
  refine lv_istore (lv' := [(7, .int v), (6, .int k), (5, .int (nI (5 * t))), (4, .ref (ad 115)), (3, .ref (ad 114)), (2, .ref (ad 102)), (1, .ref (ad 0)), (0, .ref b)]) hx hb dL_law_914 hl (by decide) rfl (fun ls hl => ?_)
  refine lv_aload_n hx hb dL_law_916 rfl (lv_at hl 5 rfl) ?_
  refine w_calli (va_runV (As := []) (rest := []) ⟨hx, hb, hml, hown, hts⟩ (c_X5_thrown l 116 D cA ad hi (by decide) I2 J2 X2 H.size) (cwV 0 hts gL_law_X5_thrown rfl rfl rfl (by decide +kernel) ⟨(Nat.le_of_ble_eq_true rfl), (Nat.le_of_ble_eq_true rfl)⟩) (w_preV hK hP 102 (by decide) ⟨rfl, rfl⟩ rfl) rfl rfl hl.1 rfl (lv_room (Nat.le_of_ble_eq_true rfl)) dL_law_917 ⟨by show cells + 1 + 0 + 0 ≤ 601024; omega, by show slots + 6 + 0 + 0 ≤ 7293034; omega⟩) hS (fun H locs hP hS => ?_)
  rw [h14]
  refine lv_iload hx hb dL_law_920 (lv_at hl 1 rfl) ?_
  refine lv_icmp_eq (tgt := 927) hx hb dL_law_922 (by decide) (fun _ => ?_) (fun z => absurd rfl z)
  refine lv_iload hx hb dL_law_927 (lv_at hl 1 rfl) ?_
  refine lv_if_ne (tgt := 944) hx hb dL_law_929 (by decide) (fun _ => ?_) (fun hk0 => ?_)
  · skip
    refine lv_goto (tgt := 947) hx hb dL_law_944 (by decide) ?_
    exact kx j9 _ _ _ _ _ _ hj9 hv2 hP hS (lv_sub hl [2, 3, 4, 5, 6, 7] rfl)
  · skip
    refine lv_aload_n hx hb dL_law_932 rfl (lv_at hl 4 rfl) ?_
    refine lv_iconst (v := 0) hx hb dL_law_933 (by decide) ?_
    refine w_lald hx hb hK hP 114 0 ⟨rfl, by decide⟩ (by decide) rfl dL_law_934 ?_
    refine lv_iload hx hb dL_law_935 (lv_at hl 0 rfl) ?_
    refine lv_i2l (v := v.toInt64) hx hb dL_law_937 rfl ?_
    refine W.lcmp hx hb dL_law_938 ?_
    refine lv_if_eq (tgt := 944) hx hb dL_law_939 (by decide) (fun _ => ?_) (fun z => absurd ((lg_cmp_eq _ _).mpr (hcmp hk0)) z)
    refine lv_goto (tgt := 947) hx hb dL_law_944 (by decide) ?_
    exact kx j9 _ _ _ _ _ _ hj9 hv2 hP hS (lv_sub hl [2, 3, 4, 5, 6, 7] rfl)
