
def emJ (X : SX) (k i : Nat) (f : UInt64) : Nat → SX
  | 0 => X
  | j + 1 => if j < k then emJ X k i f j else st2 (emJ X k i f j) 108 (9 * i + j) (ms (emJ X k i f j 108 (9 * i + j)) f (emJ X k i f j 108 (9 * k + j)))
theorem emJ_k {X : SX} {k i : Nat} {f : UInt64} : ∀ j, j ≤ k → emJ X k i f j = X
  | 0, _ => rfl
  | j + 1, h => by unfold emJ; rw [if_pos (by omega : j < k)]; exact emJ_k j (by omega)
def emf (X : SX) (k i : Nat) : UInt64 := FP.ddiv (X 108 (9 * i + k)) (X 108 (10 * k))
def emS (X : SX) (k i : Nat) : SX := st2 (emJ X k i (emf X k i) 9) 109 i (ms (emJ X k i (emf X k i) 9 109 i) (emf X k i) (emJ X k i (emf X k i) 9 109 k))
def emI (X : SX) (k : Nat) : Nat → SX
  | 0 => X
  | i + 1 => if i ≤ k then emI X k i else emS (emI X k i) k i
theorem emI_k {X : SX} {k : Nat} : ∀ i, i ≤ k + 1 → emI X k i = X
  | 0, _ => rfl
  | i + 1, h => by unfold emI; rw [if_pos (by omega : i ≤ k)]; exact emI_k i (by omega)
def FsOK (X : SX) (k i : Nat) : Prop := vf_n64 (emf X k i) ∧ (∀ j, k ≤ j → j < 9 → msOK (emJ X k i (emf X k i) j 108 (9 * i + j)) (emf X k i) (emJ X k i (emf X k i) j 108 (9 * k + j))) ∧ msOK (emJ X k i (emf X k i) 9 109 i) (emf X k i) (emJ X k i (emf X k i) 9 109 k)
def EmOK (X : SX) (k : Nat) : Prop := ∀ i, k < i → i < 9 → FsOK (emI X k i) k i
def smJ (X : SX) (i : Nat) : Nat → UInt64
  | 0 => X 109 i
  | j + 1 => if j ≤ i then smJ X i j else ms (smJ X i j) (X 108 (9 * i + j)) (X 110 j)
theorem smJ_i {X : SX} {i : Nat} : ∀ j, j ≤ i + 1 → smJ X i j = X 109 i
  | 0, _ => rfl
  | j + 1, h => by unfold smJ; rw [if_pos (by omega : j ≤ i)]; exact smJ_i j (by omega)
def smS (X : SX) (i : Nat) : SX := st2 X 110 i (FP.ddiv (smJ X i 9) (X 108 (10 * i)))
def SmOK (X : SX) (i : Nat) : Prop := (∀ j, i < j → j < 9 → msOK (smJ X i j) (X 108 (9 * i + j)) (X 110 j)) ∧ vf_n64 (FP.ddiv (smJ X i 9) (X 108 (10 * i)))
def moK (X : SX) : Nat → SX
  | 0 => X
  | k + 1 => emI (moK X k) k 9
def moR (X : SX) : Nat → SX
  | 0 => X
  | t + 1 => smS (moR X t) (8 - t)
def MoOK (X : SX) : Prop := (∀ k, k < 9 → EmOK (moK X k) k) ∧ (∀ t, t < 9 → SmOK (moR (moK X 9) t) (8 - t))

set_option maxHeartbeats 4000000 in
set_option maxRecDepth 100000 in
theorem lp_X5_sh_E {p : Program} {l : Launch} {e : Env} {s : State} {m : MethodId} {args : Array Value} {below : List Frame} {meth : Method} {c : Code} {Q : State → Prop} {nW : Nat} {D : va_G} {cA : Nat → ClassId} {ad : Nat → Nat} (hi : inj nW ad) (hNW : 114 ≤ nW) (hx : p.tables.exec = Jvm.exec) (hb : c.code = cX5_share) (hml : c.maxLocals = 10) (hown : s.vm.findClass RX5 = some m.cls) (hts : ∀ w ∈ wsX5_share, w.before args s = true) (hK : WK D cA s) (I : SI) (J : SJ) (X : SX) (Y : SX) (r n k i : Nat) (hk9 : k < 9) (hi9 : i < 9) (hE : FsOK Y k i) (kx :  ∀ (H : Heap) (locs : List Loc), WP nW D cA ad I J (emJ Y k i (emf Y k i) (9)) H → va_S (fr nW ad s.heap.size) s.heap H locs → ∀ (ls : Array Slot), lv_has ls 10 [(7, .double (emf Y k i)), (6, .int (nI (i))), (5, .int (nI (k))), (1, .int (nI (r))), (2, .int (nI (n))), (0, .ref (ad 102))] → W p l e (headSpec wsX5_share ({ frames := 3, cells := 0, slots := 0, locals := 70 })).room s m args below meth c H locs 0 0 Q (F0 m 248 ls [])) : ∀ (t j : Nat), j + t = 9 → (hq : k ≤ j) → ∀ (H : Heap) (locs : List Loc), WP nW D cA ad I J (emJ Y k i (emf Y k i) (j)) H → va_S (fr nW ad s.heap.size) s.heap H locs → ∀ (ls : Array Slot), lv_has ls 10 [(9, .int (nI (j))), (7, .double (emf Y k i)), (6, .int (nI (i))), (5, .int (nI (k))), (1, .int (nI (r))), (2, .int (nI (n))), (0, .ref (ad 102))] → W p l e (headSpec wsX5_share ({ frames := 3, cells := 0, slots := 0, locals := 70 })).room s m args below meth c H locs 0 0 Q (F0 m 203 ls []) := by
  have hA : ∀ k, k < nW → fr nW ad s.heap.size (ad k) := fr_ad
  intro t
  induction t with
  | zero =>
    intro j hj hq H locs hP hS ls hl
    obtain rfl : 9 = j := by omega
    refine lv_iload hx hb dX5_share_203 (lv_at hl 0 rfl) ?_
    refine lv_bipush (v := 9) hx hb dX5_share_205 (by decide) ?_
    refine lv_icmp_ge (tgt := 248) hx hb dX5_share_207 (by decide) (fun cc => ?_) (fun cc => ?_)
    · have qcc : 9 ≤ 9 := (wn_le (a := 9) (b := 9) rfl rfl (by omega) (by omega)).mp cc
      exact kx  H locs hP hS ls (lv_sub hl [1, 2, 3, 4, 5, 6] rfl)
    · have qcc : ¬ 9 ≤ 9 := fun z => cc ((wn_le (a := 9) (b := 9) rfl rfl (by omega) (by omega)).mpr z)
      exact absurd qcc (by omega)
  | succ t ih =>
    intro j hj hq H locs hP hS ls hl
    refine lv_iload hx hb dX5_share_203 (lv_at hl 0 rfl) ?_
    refine lv_bipush (v := 9) hx hb dX5_share_205 (by decide) ?_
    refine lv_icmp_ge (tgt := 248) hx hb dX5_share_207 (by decide) (fun cc => ?_) (fun cc => ?_)
    · have qcc : 9 ≤ j := (wn_le (a := 9) (b := j) rfl rfl (by omega) (by omega)).mp cc
      exact absurd qcc (by omega)
    · have qcc : ¬ 9 ≤ j := fun z => cc ((wn_le (a := 9) (b := j) rfl rfl (by omega) (by omega)).mpr z)
      refine lv_aload_n hx hb dX5_share_210 rfl (lv_at hl 6 rfl) ?_
      refine w_get (C := RX5) (T := TX5) (N := 15) (v := .ref (ad 108)) (index := 33) hx hb hts inX5_share_X5 hown hK hP 102 8 ⟨rfl, rfl, by decide⟩ (by omega) rfl (List.mem_of_getElem? (i := 4) rfl) (fun _ h9 => h9) dX5_share_211 ?_
      refine lv_bipush (v := 9) hx hb dX5_share_214 (by decide) ?_
      refine lv_iload hx hb dX5_share_216 (lv_at hl 2 rfl) ?_
      refine w_imulN (a := 9) (b := i) hx hb rfl rfl dX5_share_218 ?_
      refine lv_iload hx hb dX5_share_219 (lv_at hl 0 rfl) ?_
      refine w_iaddN (a := (9 * i)) (b := j) hx hb rfl rfl dX5_share_221 ?_
      refine lv_dup2_11 hx hb dX5_share_222 rfl rfl ?_
      refine w_dald hx hb hK hP 108 ((9 * i) + j) ⟨rfl, (by show (9 * i) + j < 81; omega)⟩ (by omega) rfl dX5_share_223 ?_
      refine lv_dload hx hb dX5_share_224 (lv_at hl 1 rfl) ?_
      refine lv_aload_n hx hb dX5_share_226 rfl (lv_at hl 6 rfl) ?_
      refine w_get (C := RX5) (T := TX5) (N := 15) (v := .ref (ad 108)) (index := 33) hx hb hts inX5_share_X5 hown hK hP 102 8 ⟨rfl, rfl, by decide⟩ (by omega) rfl (List.mem_of_getElem? (i := 4) rfl) (fun _ h9 => h9) dX5_share_227 ?_
      refine lv_bipush (v := 9) hx hb dX5_share_230 (by decide) ?_
      refine lv_iload hx hb dX5_share_232 (lv_at hl 3 rfl) ?_
      refine w_imulN (a := 9) (b := k) hx hb rfl rfl dX5_share_234 ?_
      refine lv_iload hx hb dX5_share_235 (lv_at hl 0 rfl) ?_
      refine w_iaddN (a := (9 * k)) (b := j) hx hb rfl rfl dX5_share_237 ?_
      refine w_dald hx hb hK hP 108 ((9 * k) + j) ⟨rfl, (by show (9 * k) + j < 81; omega)⟩ (by omega) rfl dX5_share_238 ?_
      refine lv_dmul hx hb dX5_share_239 (hE.2.1 j hq (by omega)).1 ?_
      refine lv_dsub hx hb dX5_share_240 (hE.2.1 j hq (by omega)).2 ?_
      refine w_dast (v := FP.dsub ((emJ Y k i (emf Y k i) (j)) 108 ((9 * i) + j)) (FP.dmul (emf Y k i) ((emJ Y k i (emf Y k i) (j)) 108 ((9 * k) + j)))) hx hb hK hP hi hA hS 108 ((9 * i) + j) ⟨rfl, (by show (9 * i) + j < 81; omega)⟩ (by omega) rfl dX5_share_241 (fun H locs hP hS => ?_)
      obtain ⟨X_1, eX_1⟩ : ∃ y, y = st2 (emJ Y k i (emf Y k i) (j)) 108 ((9 * i) + j) (FP.dsub ((emJ Y k i (emf Y k i) (j)) 108 ((9 * i) + j)) (FP.dmul (emf Y k i) ((emJ Y k i (emf Y k i) (j)) 108 ((9 * k) + j)))) := ⟨_, rfl⟩
      have hP : WP nW D cA ad I J X_1 H := by rw [eX_1]; exact hP
      refine lv_iinc (v := nI (j + 1)) (lv' := [(9, .int (nI (j + 1))), (7, .double (emf Y k i)), (6, .int (nI (i))), (5, .int (nI (k))), (1, .int (nI (r))), (2, .int (nI (n))), (0, .ref (ad 102))]) hx hb dX5_share_242 hl (k := 0) rfl (wn_inc rfl) (by decide) rfl (fun ls hl => ?_)
      refine lv_goto (tgt := 203) hx hb dX5_share_245 (by decide) ?_
      exact ih (j + 1) (by omega) (by omega) H locs (w_cong (I1 := I) (J1 := J) (X1 := (emJ Y k i (emf Y k i) ((j + 1)))) hP ⟨rfl, rfl, (by subst_vars; first | rfl | (simp only [emJ, ms, if_neg (by omega : ¬ j < k)]; done))⟩) hS ls (lv_cong (l := [(9, .int (nI (j + 1))), (7, .double (emf Y k i)), (6, .int (nI (i))), (5, .int (nI (k))), (1, .int (nI (r))), (2, .int (nI (n))), (0, .ref (ad 102))]) (l' := [(9, .int (nI ((j + 1)))), (7, .double (emf Y k i)), (6, .int (nI (i))), (5, .int (nI (k))), (1, .int (nI (r))), (2, .int (nI (n))), (0, .ref (ad 102))]) (lv_sub hl [0, 1, 2, 3, 4, 5, 6] rfl) (by subst_vars; first | rfl | (simp only [emJ, ms, if_neg (by omega : ¬ j < k)]; done)))

set_option maxHeartbeats 4000000 in
set_option maxRecDepth 100000 in
theorem lp_X5_sh_D {p : Program} {l : Launch} {e : Env} {s : State} {m : MethodId} {args : Array Value} {below : List Frame} {meth : Method} {c : Code} {Q : State → Prop} {nW : Nat} {D : va_G} {cA : Nat → ClassId} {ad : Nat → Nat} (hi : inj nW ad) (hNW : 114 ≤ nW) (hx : p.tables.exec = Jvm.exec) (hb : c.code = cX5_share) (hml : c.maxLocals = 10) (hown : s.vm.findClass RX5 = some m.cls) (hts : ∀ w ∈ wsX5_share, w.before args s = true) (hK : WK D cA s) (I : SI) (J : SJ) (X : SX) (r n k : Nat) (hk9 : k < 9) (hE : EmOK X k) (kx :  ∀ (H : Heap) (locs : List Loc), WP nW D cA ad I J (emI X k (9)) H → va_S (fr nW ad s.heap.size) s.heap H locs → ∀ (ls : Array Slot), lv_has ls 10 [(5, .int (nI (k))), (1, .int (nI (r))), (2, .int (nI (n))), (0, .ref (ad 102))] → W p l e (headSpec wsX5_share ({ frames := 3, cells := 0, slots := 0, locals := 70 })).room s m args below meth c H locs 0 0 Q (F0 m 274 ls [])) : ∀ (t i : Nat), i + t = 9 → (hq : k < i) → ∀ (H : Heap) (locs : List Loc), WP nW D cA ad I J (emI X k (i)) H → va_S (fr nW ad s.heap.size) s.heap H locs → ∀ (ls : Array Slot), lv_has ls 10 [(6, .int (nI (i))), (5, .int (nI (k))), (1, .int (nI (r))), (2, .int (nI (n))), (0, .ref (ad 102))] → W p l e (headSpec wsX5_share ({ frames := 3, cells := 0, slots := 0, locals := 70 })).room s m args below meth c H locs 0 0 Q (F0 m 166 ls []) := by
  have hA : ∀ k, k < nW → fr nW ad s.heap.size (ad k) := fr_ad
  intro t
  induction t with
  | zero =>
    intro i hj hq H locs hP hS ls hl
    obtain rfl : 9 = i := by omega
    refine lv_iload hx hb dX5_share_166 (lv_at hl 0 rfl) ?_
    refine lv_bipush (v := 9) hx hb dX5_share_168 (by decide) ?_
    refine lv_icmp_ge (tgt := 274) hx hb dX5_share_170 (by decide) (fun cc => ?_) (fun cc => ?_)
    · have qcc : 9 ≤ 9 := (wn_le (a := 9) (b := 9) rfl rfl (by omega) (by omega)).mp cc
      exact kx  H locs hP hS ls (lv_sub hl [1, 2, 3, 4] rfl)
    · have qcc : ¬ 9 ≤ 9 := fun z => cc ((wn_le (a := 9) (b := 9) rfl rfl (by omega) (by omega)).mpr z)
      exact absurd qcc (by omega)
  | succ t ih =>
    intro i hj hq H locs hP hS ls hl
    refine lv_iload hx hb dX5_share_166 (lv_at hl 0 rfl) ?_
    refine lv_bipush (v := 9) hx hb dX5_share_168 (by decide) ?_
    refine lv_icmp_ge (tgt := 274) hx hb dX5_share_170 (by decide) (fun cc => ?_) (fun cc => ?_)
    · have qcc : 9 ≤ i := (wn_le (a := 9) (b := i) rfl rfl (by omega) (by omega)).mp cc
      exact absurd qcc (by omega)
    · have qcc : ¬ 9 ≤ i := fun z => cc ((wn_le (a := 9) (b := i) rfl rfl (by omega) (by omega)).mpr z)
      refine lv_aload_n hx hb dX5_share_173 rfl (lv_at hl 4 rfl) ?_
      refine w_get (C := RX5) (T := TX5) (N := 15) (v := .ref (ad 108)) (index := 33) hx hb hts inX5_share_X5 hown hK hP 102 8 ⟨rfl, rfl, by decide⟩ (by omega) rfl (List.mem_of_getElem? (i := 4) rfl) (fun _ h9 => h9) dX5_share_174 ?_
      refine lv_bipush (v := 9) hx hb dX5_share_177 (by decide) ?_
      refine lv_iload hx hb dX5_share_179 (lv_at hl 0 rfl) ?_
      refine w_imulN (a := 9) (b := i) hx hb rfl rfl dX5_share_181 ?_
      refine lv_iload hx hb dX5_share_182 (lv_at hl 1 rfl) ?_
      refine w_iaddN (a := (9 * i)) (b := k) hx hb rfl rfl dX5_share_184 ?_
      refine w_dald hx hb hK hP 108 ((9 * i) + k) ⟨rfl, (by show (9 * i) + k < 81; omega)⟩ (by omega) rfl dX5_share_185 ?_
      refine lv_aload_n hx hb dX5_share_186 rfl (lv_at hl 4 rfl) ?_
      refine w_get (C := RX5) (T := TX5) (N := 15) (v := .ref (ad 108)) (index := 33) hx hb hts inX5_share_X5 hown hK hP 102 8 ⟨rfl, rfl, by decide⟩ (by omega) rfl (List.mem_of_getElem? (i := 4) rfl) (fun _ h9 => h9) dX5_share_187 ?_
      refine lv_bipush (v := 10) hx hb dX5_share_190 (by decide) ?_
      refine lv_iload hx hb dX5_share_192 (lv_at hl 1 rfl) ?_
      refine w_imulN (a := 10) (b := k) hx hb rfl rfl dX5_share_194 ?_
      refine w_dald hx hb hK hP 108 (10 * k) ⟨rfl, (by show 10 * k < 81; omega)⟩ (by omega) rfl dX5_share_195 ?_
      refine lv_ddiv hx hb dX5_share_196 (hE i hq (by omega)).1 ?_
      refine lv_dstore (lv' := [(7, .double (FP.ddiv ((emI X k (i)) 108 ((9 * i) + k)) ((emI X k (i)) 108 (10 * k)))), (6, .int (nI (i))), (5, .int (nI (k))), (1, .int (nI (r))), (2, .int (nI (n))), (0, .ref (ad 102))]) hx hb dX5_share_197 hl (by decide) rfl (fun ls hl => ?_)
      refine lv_iload hx hb dX5_share_199 (lv_at hl 2 rfl) ?_
      refine lv_istore (lv' := [(9, .int (nI (k))), (7, .double (FP.ddiv ((emI X k (i)) 108 ((9 * i) + k)) ((emI X k (i)) 108 (10 * k)))), (6, .int (nI (i))), (5, .int (nI (k))), (1, .int (nI (r))), (2, .int (nI (n))), (0, .ref (ad 102))]) hx hb dX5_share_201 hl (by decide) rfl (fun ls hl => ?_)
      refine lp_X5_sh_E hi hNW hx hb hml hown hts hK I J X (emI X k i) r n k i hk9 (by omega) (hE i hq (by omega)) (fun  H locs hP hS ls hl => ?_) ((9 - k)) (k) (by omega) (by omega) H locs (w_cong (I1 := I) (J1 := J) (X1 := (emJ (emI X k i) k i (emf (emI X k i) k i) (k))) hP ⟨rfl, rfl, (by first | rfl | exact (emJ_k k (Nat.le_refl k)).symm)⟩) hS ls (lv_cong (l := [(9, .int (nI (k))), (7, .double (FP.ddiv ((emI X k (i)) 108 ((9 * i) + k)) ((emI X k (i)) 108 (10 * k)))), (6, .int (nI (i))), (5, .int (nI (k))), (1, .int (nI (r))), (2, .int (nI (n))), (0, .ref (ad 102))]) (l' := [(9, .int (nI (k))), (7, .double (emf (emI X k i) k i)), (6, .int (nI (i))), (5, .int (nI (k))), (1, .int (nI (r))), (2, .int (nI (n))), (0, .ref (ad 102))]) (lv_sub hl [0, 1, 2, 3, 4, 5, 6] rfl) (by first | rfl | exact (emJ_k k (Nat.le_refl k)).symm))
      refine lv_aload_n hx hb dX5_share_248 rfl (lv_at hl 5 rfl) ?_
      refine w_get (C := RX5) (T := TX5) (N := 15) (v := .ref (ad 109)) (index := 37) hx hb hts inX5_share_X5 hown hK hP 102 9 ⟨rfl, rfl, by decide⟩ (by omega) rfl (List.mem_of_getElem? (i := 5) rfl) (fun _ h9 => h9) dX5_share_249 ?_
      refine lv_iload hx hb dX5_share_252 (lv_at hl 1 rfl) ?_
      refine lv_dup2_11 hx hb dX5_share_254 rfl rfl ?_
      refine w_dald hx hb hK hP 109 (i) ⟨rfl, (by show i < 9; omega)⟩ (by omega) rfl dX5_share_255 ?_
      refine lv_dload hx hb dX5_share_256 (lv_at hl 0 rfl) ?_
      refine lv_aload_n hx hb dX5_share_258 rfl (lv_at hl 5 rfl) ?_
      refine w_get (C := RX5) (T := TX5) (N := 15) (v := .ref (ad 109)) (index := 37) hx hb hts inX5_share_X5 hown hK hP 102 9 ⟨rfl, rfl, by decide⟩ (by omega) rfl (List.mem_of_getElem? (i := 5) rfl) (fun _ h9 => h9) dX5_share_259 ?_
      refine lv_iload hx hb dX5_share_262 (lv_at hl 2 rfl) ?_
      refine w_dald hx hb hK hP 109 (k) ⟨rfl, (by show k < 9; omega)⟩ (by omega) rfl dX5_share_264 ?_
      refine lv_dmul hx hb dX5_share_265 (hE i hq (by omega)).2.2.1 ?_
      refine lv_dsub hx hb dX5_share_266 (hE i hq (by omega)).2.2.2 ?_
      refine w_dast (v := FP.dsub ((emJ (emI X k i) k i (emf (emI X k i) k i) (9)) 109 (i)) (FP.dmul (emf (emI X k i) k i) ((emJ (emI X k i) k i (emf (emI X k i) k i) (9)) 109 (k)))) hx hb hK hP hi hA hS 109 (i) ⟨rfl, (by show i < 9; omega)⟩ (by omega) rfl dX5_share_267 (fun H locs hP hS => ?_)
      obtain ⟨X_1, eX_1⟩ : ∃ y, y = st2 (emJ (emI X k i) k i (emf (emI X k i) k i) (9)) 109 (i) (FP.dsub ((emJ (emI X k i) k i (emf (emI X k i) k i) (9)) 109 (i)) (FP.dmul (emf (emI X k i) k i) ((emJ (emI X k i) k i (emf (emI X k i) k i) (9)) 109 (k)))) := ⟨_, rfl⟩
      have hP : WP nW D cA ad I J X_1 H := by rw [eX_1]; exact hP
      refine lv_iinc (v := nI (i + 1)) (lv' := [(6, .int (nI (i + 1))), (7, .double (emf (emI X k i) k i)), (5, .int (nI (k))), (1, .int (nI (r))), (2, .int (nI (n))), (0, .ref (ad 102))]) hx hb dX5_share_268 hl (k := 1) rfl (wn_inc rfl) (by decide) rfl (fun ls hl => ?_)
      refine lv_goto (tgt := 166) hx hb dX5_share_271 (by decide) ?_
      exact ih (i + 1) (by omega) (by omega) H locs (w_cong (I1 := I) (J1 := J) (X1 := (emI X k ((i + 1)))) hP ⟨rfl, rfl, (by subst_vars; first | rfl | (simp only [emI, emS, ms, emf, if_neg (by omega : ¬ i ≤ k)]; done))⟩) hS ls (lv_cong (l := [(6, .int (nI (i + 1))), (5, .int (nI (k))), (1, .int (nI (r))), (2, .int (nI (n))), (0, .ref (ad 102))]) (l' := [(6, .int (nI ((i + 1)))), (5, .int (nI (k))), (1, .int (nI (r))), (2, .int (nI (n))), (0, .ref (ad 102))]) (lv_sub hl [0, 2, 3, 4, 5] rfl) (by subst_vars; first | rfl | (simp only [emI, emS, ms, emf, if_neg (by omega : ¬ i ≤ k)]; done)))

set_option maxHeartbeats 4000000 in
set_option maxRecDepth 100000 in
theorem lp_X5_sh_C {p : Program} {l : Launch} {e : Env} {s : State} {m : MethodId} {args : Array Value} {below : List Frame} {meth : Method} {c : Code} {Q : State → Prop} {nW : Nat} {D : va_G} {cA : Nat → ClassId} {ad : Nat → Nat} (hi : inj nW ad) (hNW : 114 ≤ nW) (hx : p.tables.exec = Jvm.exec) (hb : c.code = cX5_share) (hml : c.maxLocals = 10) (hown : s.vm.findClass RX5 = some m.cls) (hts : ∀ w ∈ wsX5_share, w.before args s = true) (hK : WK D cA s) (I : SI) (J : SJ) (X : SX) (r n : Nat) (hSo : ∀ k, k < 9 → EmOK (moK X k) k) (kx :  ∀ (H : Heap) (locs : List Loc), WP nW D cA ad I J (moK X 9) H → va_S (fr nW ad s.heap.size) s.heap H locs → ∀ (ls : Array Slot), lv_has ls 10 [(1, .int (nI (r))), (2, .int (nI (n))), (0, .ref (ad 102))] → W p l e (headSpec wsX5_share ({ frames := 3, cells := 0, slots := 0, locals := 70 })).room s m args below meth c H locs 0 0 Q (F0 m 280 ls [])) : ∀ (t k : Nat), k + t = 9 →  ∀ (H : Heap) (locs : List Loc), WP nW D cA ad I J (moK X (k)) H → va_S (fr nW ad s.heap.size) s.heap H locs → ∀ (ls : Array Slot), lv_has ls 10 [(5, .int (nI (k))), (1, .int (nI (r))), (2, .int (nI (n))), (0, .ref (ad 102))] → W p l e (headSpec wsX5_share ({ frames := 3, cells := 0, slots := 0, locals := 70 })).room s m args below meth c H locs 0 0 Q (F0 m 153 ls []) := by
  have hA : ∀ k, k < nW → fr nW ad s.heap.size (ad k) := fr_ad
  intro t
  induction t with
  | zero =>
    intro k hj  H locs hP hS ls hl
    obtain rfl : 9 = k := by omega
    refine lv_iload hx hb dX5_share_153 (lv_at hl 0 rfl) ?_
    refine lv_bipush (v := 9) hx hb dX5_share_155 (by decide) ?_
    refine lv_icmp_ge (tgt := 280) hx hb dX5_share_157 (by decide) (fun cc => ?_) (fun cc => ?_)
    · have qcc : 9 ≤ 9 := (wn_le (a := 9) (b := 9) rfl rfl (by omega) (by omega)).mp cc
      exact kx  H locs (w_cong (I1 := I) (J1 := J) (X1 := (moK X 9)) hP ⟨rfl, rfl, (by subst_vars; rfl)⟩) hS ls (lv_sub hl [1, 2, 3] rfl)
    · have qcc : ¬ 9 ≤ 9 := fun z => cc ((wn_le (a := 9) (b := 9) rfl rfl (by omega) (by omega)).mpr z)
      exact absurd qcc (by omega)
  | succ t ih =>
    intro k hj  H locs hP hS ls hl
    refine lv_iload hx hb dX5_share_153 (lv_at hl 0 rfl) ?_
    refine lv_bipush (v := 9) hx hb dX5_share_155 (by decide) ?_
    refine lv_icmp_ge (tgt := 280) hx hb dX5_share_157 (by decide) (fun cc => ?_) (fun cc => ?_)
    · have qcc : 9 ≤ k := (wn_le (a := 9) (b := k) rfl rfl (by omega) (by omega)).mp cc
      exact absurd qcc (by omega)
    · have qcc : ¬ 9 ≤ k := fun z => cc ((wn_le (a := 9) (b := k) rfl rfl (by omega) (by omega)).mpr z)
      refine lv_iload hx hb dX5_share_160 (lv_at hl 0 rfl) ?_
      refine lv_iconst (v := 1) hx hb dX5_share_162 (by decide) ?_
      refine w_iaddN (a := k) (b := 1) hx hb rfl rfl dX5_share_163 ?_
      refine lv_istore (lv' := [(6, .int (nI (k + 1))), (5, .int (nI (k))), (1, .int (nI (r))), (2, .int (nI (n))), (0, .ref (ad 102))]) hx hb dX5_share_164 hl (by decide) rfl (fun ls hl => ?_)
      refine lp_X5_sh_D hi hNW hx hb hml hown hts hK I J (moK X k) r n k (by omega) (hSo k (by omega)) (fun  H locs hP hS ls hl => ?_) ((9 - (k + 1))) ((k + 1)) (by omega) (by omega) H locs (w_cong (I1 := I) (J1 := J) (X1 := (emI (moK X k) k (k + 1))) hP ⟨rfl, rfl, (by first | rfl | exact (emI_k (k + 1) (Nat.le_refl _)).symm | (subst_vars; rfl))⟩) hS ls (lv_sub hl [0, 1, 2, 3, 4] rfl)
      refine lv_iinc (v := nI (k + 1)) (lv' := [(5, .int (nI (k + 1))), (1, .int (nI (r))), (2, .int (nI (n))), (0, .ref (ad 102))]) hx hb dX5_share_274 hl (k := 0) rfl (wn_inc rfl) (by decide) rfl (fun ls hl => ?_)
      refine lv_goto (tgt := 153) hx hb dX5_share_277 (by decide) ?_
      exact ih (k + 1) (by omega)  H locs (w_cong (I1 := I) (J1 := J) (X1 := (moK X ((k + 1)))) hP ⟨rfl, rfl, (by subst_vars; rfl)⟩) hS ls (lv_cong (l := [(5, .int (nI (k + 1))), (1, .int (nI (r))), (2, .int (nI (n))), (0, .ref (ad 102))]) (l' := [(5, .int (nI ((k + 1)))), (1, .int (nI (r))), (2, .int (nI (n))), (0, .ref (ad 102))]) (lv_sub hl [0, 1, 2, 3] rfl) (by subst_vars; rfl))

set_option maxHeartbeats 4000000 in
set_option maxRecDepth 100000 in
theorem lp_X5_sh_G {p : Program} {l : Launch} {e : Env} {s : State} {m : MethodId} {args : Array Value} {below : List Frame} {meth : Method} {c : Code} {Q : State → Prop} {nW : Nat} {D : va_G} {cA : Nat → ClassId} {ad : Nat → Nat} (hi : inj nW ad) (hNW : 114 ≤ nW) (hx : p.tables.exec = Jvm.exec) (hb : c.code = cX5_share) (hml : c.maxLocals = 10) (hown : s.vm.findClass RX5 = some m.cls) (hts : ∀ w ∈ wsX5_share, w.before args s = true) (hK : WK D cA s) (I : SI) (J : SJ) (X : SX) (r n i : Nat) (hi9 : i < 9) (hE : SmOK X i) (kx :  ∀ (H : Heap) (locs : List Loc), WP nW D cA ad I J X H → va_S (fr nW ad s.heap.size) s.heap H locs → ∀ (ls : Array Slot), lv_has ls 10 [(6, .double (smJ X i 9)), (5, .int (nI (i))), (1, .int (nI (r))), (2, .int (nI (n))), (0, .ref (ad 102))] → W p l e (headSpec wsX5_share ({ frames := 3, cells := 0, slots := 0, locals := 70 })).room s m args below meth c H locs 0 0 Q (F0 m 343 ls [])) : ∀ (t j : Nat), j + t = 9 → (hq : i < j) → ∀ (H : Heap) (locs : List Loc), WP nW D cA ad I J X H → va_S (fr nW ad s.heap.size) s.heap H locs → ∀ (ls : Array Slot), lv_has ls 10 [(8, .int (nI (j))), (6, .double (smJ X i (j))), (5, .int (nI (i))), (1, .int (nI (r))), (2, .int (nI (n))), (0, .ref (ad 102))] → W p l e (headSpec wsX5_share ({ frames := 3, cells := 0, slots := 0, locals := 70 })).room s m args below meth c H locs 0 0 Q (F0 m 304 ls []) := by
  have hA : ∀ k, k < nW → fr nW ad s.heap.size (ad k) := fr_ad
  intro t
  induction t with
  | zero =>
    intro j hj hq H locs hP hS ls hl
    obtain rfl : 9 = j := by omega
    refine lv_iload hx hb dX5_share_304 (lv_at hl 0 rfl) ?_
    refine lv_bipush (v := 9) hx hb dX5_share_306 (by decide) ?_
    refine lv_icmp_ge (tgt := 343) hx hb dX5_share_308 (by decide) (fun cc => ?_) (fun cc => ?_)
    · have qcc : 9 ≤ 9 := (wn_le (a := 9) (b := 9) rfl rfl (by omega) (by omega)).mp cc
      exact kx  H locs hP hS ls (lv_cong (l := [(6, .double (smJ X i (9))), (5, .int (nI (i))), (1, .int (nI (r))), (2, .int (nI (n))), (0, .ref (ad 102))]) (l' := [(6, .double (smJ X i 9)), (5, .int (nI (i))), (1, .int (nI (r))), (2, .int (nI (n))), (0, .ref (ad 102))]) (lv_sub hl [1, 2, 3, 4, 5] rfl) (by subst_vars; rfl))
    · have qcc : ¬ 9 ≤ 9 := fun z => cc ((wn_le (a := 9) (b := 9) rfl rfl (by omega) (by omega)).mpr z)
      exact absurd qcc (by omega)
  | succ t ih =>
    intro j hj hq H locs hP hS ls hl
    refine lv_iload hx hb dX5_share_304 (lv_at hl 0 rfl) ?_
    refine lv_bipush (v := 9) hx hb dX5_share_306 (by decide) ?_
    refine lv_icmp_ge (tgt := 343) hx hb dX5_share_308 (by decide) (fun cc => ?_) (fun cc => ?_)
    · have qcc : 9 ≤ j := (wn_le (a := 9) (b := j) rfl rfl (by omega) (by omega)).mp cc
      exact absurd qcc (by omega)
    · have qcc : ¬ 9 ≤ j := fun z => cc ((wn_le (a := 9) (b := j) rfl rfl (by omega) (by omega)).mpr z)
      refine lv_dload hx hb dX5_share_311 (lv_at hl 1 rfl) ?_
      refine lv_aload_n hx hb dX5_share_313 rfl (lv_at hl 5 rfl) ?_
      refine w_get (C := RX5) (T := TX5) (N := 15) (v := .ref (ad 108)) (index := 33) hx hb hts inX5_share_X5 hown hK hP 102 8 ⟨rfl, rfl, by decide⟩ (by omega) rfl (List.mem_of_getElem? (i := 4) rfl) (fun _ h9 => h9) dX5_share_314 ?_
      refine lv_bipush (v := 9) hx hb dX5_share_317 (by decide) ?_
      refine lv_iload hx hb dX5_share_319 (lv_at hl 2 rfl) ?_
      refine w_imulN (a := 9) (b := i) hx hb rfl rfl dX5_share_321 ?_
      refine lv_iload hx hb dX5_share_322 (lv_at hl 0 rfl) ?_
      refine w_iaddN (a := (9 * i)) (b := j) hx hb rfl rfl dX5_share_324 ?_
      refine w_dald hx hb hK hP 108 ((9 * i) + j) ⟨rfl, (by show (9 * i) + j < 81; omega)⟩ (by omega) rfl dX5_share_325 ?_
      refine lv_aload_n hx hb dX5_share_326 rfl (lv_at hl 5 rfl) ?_
      refine w_get (C := RX5) (T := TX5) (N := 15) (v := .ref (ad 110)) (index := 40) hx hb hts inX5_share_X5 hown hK hP 102 10 ⟨rfl, rfl, by decide⟩ (by omega) rfl (List.mem_of_getElem? (i := 6) rfl) (fun _ h9 => h9) dX5_share_327 ?_
      refine lv_iload hx hb dX5_share_330 (lv_at hl 0 rfl) ?_
      refine w_dald hx hb hK hP 110 (j) ⟨rfl, (by show j < 9; omega)⟩ (by omega) rfl dX5_share_332 ?_
      refine lv_dmul hx hb dX5_share_333 (hE.1 j hq (by omega)).1 ?_
      refine lv_dsub hx hb dX5_share_334 (hE.1 j hq (by omega)).2 ?_
      refine lv_dstore (lv' := [(6, .double (FP.dsub (smJ X i (j)) (FP.dmul (X 108 ((9 * i) + j)) (X 110 (j))))), (8, .int (nI (j))), (5, .int (nI (i))), (1, .int (nI (r))), (2, .int (nI (n))), (0, .ref (ad 102))]) hx hb dX5_share_335 hl (by decide) rfl (fun ls hl => ?_)
      refine lv_iinc (v := nI (j + 1)) (lv' := [(8, .int (nI (j + 1))), (6, .double (FP.dsub (smJ X i (j)) (FP.dmul (X 108 ((9 * i) + j)) (X 110 (j))))), (5, .int (nI (i))), (1, .int (nI (r))), (2, .int (nI (n))), (0, .ref (ad 102))]) hx hb dX5_share_337 hl (k := 1) rfl (wn_inc rfl) (by decide) rfl (fun ls hl => ?_)
      refine lv_goto (tgt := 304) hx hb dX5_share_340 (by decide) ?_
      exact ih (j + 1) (by omega) (by omega) H locs hP hS ls (lv_cong (l := [(8, .int (nI (j + 1))), (6, .double (FP.dsub (smJ X i (j)) (FP.dmul (X 108 ((9 * i) + j)) (X 110 (j))))), (5, .int (nI (i))), (1, .int (nI (r))), (2, .int (nI (n))), (0, .ref (ad 102))]) (l' := [(8, .int (nI ((j + 1)))), (6, .double (smJ X i ((j + 1)))), (5, .int (nI (i))), (1, .int (nI (r))), (2, .int (nI (n))), (0, .ref (ad 102))]) (lv_sub hl [0, 1, 2, 3, 4, 5] rfl) (by subst_vars; first | rfl | (simp only [smJ, ms, if_neg (by omega : ¬ j ≤ i)]; done)))

set_option maxHeartbeats 4000000 in
set_option maxRecDepth 100000 in
theorem lp_X5_sh_F {p : Program} {l : Launch} {e : Env} {s : State} {m : MethodId} {args : Array Value} {below : List Frame} {meth : Method} {c : Code} {Q : State → Prop} {nW : Nat} {D : va_G} {cA : Nat → ClassId} {ad : Nat → Nat} (hi : inj nW ad) (hNW : 114 ≤ nW) (hx : p.tables.exec = Jvm.exec) (hb : c.code = cX5_share) (hml : c.maxLocals = 10) (hown : s.vm.findClass RX5 = some m.cls) (hts : ∀ w ∈ wsX5_share, w.before args s = true) (hK : WK D cA s) (I : SI) (J : SJ) (X : SX) (r n : Nat) (hT : ∀ t, t < 9 → SmOK (moR X t) (8 - t)) (kx :  ∀ (H : Heap) (locs : List Loc), WP nW D cA ad I J (moR X (9)) H → va_S (fr nW ad s.heap.size) s.heap H locs → ∀ (ls : Array Slot), lv_has ls 10 [(1, .int (nI (r))), (2, .int (nI (n))), (0, .ref (ad 102))] → W p l e (headSpec wsX5_share ({ frames := 3, cells := 0, slots := 0, locals := 70 })).room s m args below meth c H locs 0 0 Q (F0 m 369 ls [])) : ∀ (t q : Nat), q + t = 9 →  ∀ (H : Heap) (locs : List Loc), WP nW D cA ad I J (moR X (q)) H → va_S (fr nW ad s.heap.size) s.heap H locs → ∀ (ls : Array Slot), lv_has ls 10 [(5, .int (dnI (q))), (1, .int (nI (r))), (2, .int (nI (n))), (0, .ref (ad 102))] → W p l e (headSpec wsX5_share ({ frames := 3, cells := 0, slots := 0, locals := 70 })).room s m args below meth c H locs 0 0 Q (F0 m 284 ls []) := by
  have hA : ∀ k, k < nW → fr nW ad s.heap.size (ad k) := fr_ad
  intro t
  induction t with
  | zero =>
    intro q hj  H locs hP hS ls hl
    obtain rfl : 9 = q := by omega
    refine lv_iload hx hb dX5_share_284 (lv_at hl 0 rfl) ?_
    refine lv_if_lt (tgt := 369) hx hb dX5_share_286 (by decide) (fun c286 => ?_) (fun c286 => ?_)
    · exact kx  H locs hP hS ls (lv_sub hl [1, 2, 3] rfl)
    · exact absurd dnI_lt c286
  | succ t ih =>
    intro q hj  H locs hP hS ls hl
    refine lv_iload hx hb dX5_share_284 (lv_at hl 0 rfl) ?_
    refine lv_if_lt (tgt := 369) hx hb dX5_share_286 (by decide) (fun c286 => ?_) (fun c286 => ?_)
    · exact absurd c286 (dnI_nlt q (by omega))
    · rw [dnI_eq q (by omega)] at hl
      refine lv_aload_n hx hb dX5_share_289 rfl (lv_at hl 3 rfl) ?_
      refine w_get (C := RX5) (T := TX5) (N := 15) (v := .ref (ad 109)) (index := 37) hx hb hts inX5_share_X5 hown hK hP 102 9 ⟨rfl, rfl, by decide⟩ (by omega) rfl (List.mem_of_getElem? (i := 5) rfl) (fun _ h9 => h9) dX5_share_290 ?_
      refine lv_iload hx hb dX5_share_293 (lv_at hl 0 rfl) ?_
      refine w_dald hx hb hK hP 109 (8 - q) ⟨rfl, (by show 8 - q < 9; omega)⟩ (by omega) rfl dX5_share_295 ?_
      refine lv_dstore (lv' := [(6, .double ((moR X (q)) 109 (8 - q))), (5, .int (nI (8 - q))), (1, .int (nI (r))), (2, .int (nI (n))), (0, .ref (ad 102))]) hx hb dX5_share_296 hl (by decide) rfl (fun ls hl => ?_)
      refine lv_iload hx hb dX5_share_298 (lv_at hl 1 rfl) ?_
      refine lv_iconst (v := 1) hx hb dX5_share_300 (by decide) ?_
      refine w_iaddN (a := (8 - q)) (b := 1) hx hb rfl rfl dX5_share_301 ?_
      refine lv_istore (lv' := [(8, .int (nI ((8 - q) + 1))), (6, .double ((moR X (q)) 109 (8 - q))), (5, .int (nI (8 - q))), (1, .int (nI (r))), (2, .int (nI (n))), (0, .ref (ad 102))]) hx hb dX5_share_302 hl (by decide) rfl (fun ls hl => ?_)
      refine lp_X5_sh_G hi hNW hx hb hml hown hts hK I J (moR X (q)) r n (8 - q) (by omega) (hT q (by omega)) (fun  H locs hP hS ls hl => ?_) ((9 - ((8 - q) + 1))) (((8 - q) + 1)) (by omega) (by omega) H locs hP hS ls (lv_cong (l := [(8, .int (nI ((8 - q) + 1))), (6, .double ((moR X (q)) 109 (8 - q))), (5, .int (nI (8 - q))), (1, .int (nI (r))), (2, .int (nI (n))), (0, .ref (ad 102))]) (l' := [(8, .int (nI ((8 - q) + 1))), (6, .double (smJ (moR X q) (8 - q) ((8 - q) + 1))), (5, .int (nI (8 - q))), (1, .int (nI (r))), (2, .int (nI (n))), (0, .ref (ad 102))]) (lv_sub hl [0, 1, 2, 3, 4, 5] rfl) (by first | rfl | (rw [smJ_i ((8 - q) + 1) (Nat.le_refl _)])))
      refine lv_aload_n hx hb dX5_share_343 rfl (lv_at hl 4 rfl) ?_
      refine w_get (C := RX5) (T := TX5) (N := 15) (v := .ref (ad 110)) (index := 40) hx hb hts inX5_share_X5 hown hK hP 102 10 ⟨rfl, rfl, by decide⟩ (by omega) rfl (List.mem_of_getElem? (i := 6) rfl) (fun _ h9 => h9) dX5_share_344 ?_
      refine lv_iload hx hb dX5_share_347 (lv_at hl 1 rfl) ?_
      refine lv_dload hx hb dX5_share_349 (lv_at hl 0 rfl) ?_
      refine lv_aload_n hx hb dX5_share_351 rfl (lv_at hl 4 rfl) ?_
      refine w_get (C := RX5) (T := TX5) (N := 15) (v := .ref (ad 108)) (index := 33) hx hb hts inX5_share_X5 hown hK hP 102 8 ⟨rfl, rfl, by decide⟩ (by omega) rfl (List.mem_of_getElem? (i := 4) rfl) (fun _ h9 => h9) dX5_share_352 ?_
      refine lv_bipush (v := 10) hx hb dX5_share_355 (by decide) ?_
      refine lv_iload hx hb dX5_share_357 (lv_at hl 1 rfl) ?_
      refine w_imulN (a := 10) (b := (8 - q)) hx hb rfl rfl dX5_share_359 ?_
      refine w_dald hx hb hK hP 108 (10 * (8 - q)) ⟨rfl, (by show 10 * (8 - q) < 81; omega)⟩ (by omega) rfl dX5_share_360 ?_
      refine lv_ddiv hx hb dX5_share_361 (hT q (by omega)).2 ?_
      refine w_dast (v := FP.ddiv (smJ (moR X q) (8 - q) 9) ((moR X (q)) 108 (10 * (8 - q)))) hx hb hK hP hi hA hS 110 (8 - q) ⟨rfl, (by show 8 - q < 9; omega)⟩ (by omega) rfl dX5_share_362 (fun H locs hP hS => ?_)
      obtain ⟨X_1, eX_1⟩ : ∃ y, y = st2 (moR X (q)) 110 (8 - q) (FP.ddiv (smJ (moR X q) (8 - q) 9) ((moR X (q)) 108 (10 * (8 - q)))) := ⟨_, rfl⟩
      have hP : WP nW D cA ad I J X_1 H := by rw [eX_1]; exact hP
      refine lv_iinc (v := dnI (q + 1)) (lv' := [(5, .int (dnI (q + 1))), (6, .double (smJ (moR X q) (8 - q) 9)), (1, .int (nI (r))), (2, .int (nI (n))), (0, .ref (ad 102))]) hx hb dX5_share_363 hl (k := 1) rfl (by rw [← dnI_eq q (by omega)]; exact dnI_dec q (by omega)) (by decide) rfl (fun ls hl => ?_)
      refine lv_goto (tgt := 284) hx hb dX5_share_366 (by decide) ?_
      exact ih (q + 1) (by omega)  H locs (w_cong (I1 := I) (J1 := J) (X1 := (moR X ((q + 1)))) hP ⟨rfl, rfl, (by subst_vars; rfl)⟩) hS ls (lv_cong (l := [(5, .int (dnI (q + 1))), (1, .int (nI (r))), (2, .int (nI (n))), (0, .ref (ad 102))]) (l' := [(5, .int (dnI ((q + 1)))), (1, .int (nI (r))), (2, .int (nI (n))), (0, .ref (ad 102))]) (lv_sub hl [0, 2, 3, 4] rfl) (by subst_vars; rfl))

