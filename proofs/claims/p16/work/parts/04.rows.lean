/-! numbers: ints that are small naturals -/
theorem wn_iadd {x y : Int32} {a b : Nat} (h1 : x = nI a) (h2 : y = nI b) : x + y = nI (a + b) := by rw [h1, h2]; exact nI_add a b
theorem wn_imul {x y : Int32} {a b : Nat} (h1 : x = nI a) (h2 : y = nI b) : x * y = nI (a * b) := by rw [h1, h2]; exact pk_mul a b
theorem wn_inc {x : Int32} {a : Nat} (h1 : x = nI a) : x + Int32.ofInt 1 = nI (a + 1) := by rw [h1]; exact nI_1 a
theorem wn_le {x y : Int32} {a b : Nat} (h1 : x = nI a) (h2 : y = nI b) (ha : a < 2 ^ 31) (hb : b < 2 ^ 31) : x ≤ y ↔ a ≤ b := by rw [h1, h2]; exact nI_leI ha hb
theorem wn_lt {x y : Int32} {a b : Nat} (h1 : x = nI a) (h2 : y = nI b) (ha : a < 2 ^ 31) (hb : b < 2 ^ 31) : x < y ↔ a < b := by rw [h1, h2]; exact nI_ltI ha hb
theorem wn_eq {x y : Int32} {a b : Nat} (h1 : x = nI a) (h2 : y = nI b) (ha : a < 2 ^ 31) (hb : b < 2 ^ 31) : x = y ↔ a = b := by rw [h1, h2]; exact nI_eq ha hb
/-! cells by families -/
theorem k_loanR_all : ∀ r, r < 4 → kd (3 + r) = 1 ∧ ln (3 + r) = 5 := by decide +kernel
theorem k_loanR {r i : Nat} (h : r < 4) (hi : i < 5) : kd (3 + r) = 1 ∧ i < ln (3 + r) := ⟨(k_loanR_all r h).1, by rw [(k_loanR_all r h).2]; exact hi⟩
theorem k_walkedR_all : ∀ r, r < 9 → kd (9 + r) = 1 ∧ ln (9 + r) = 9 := by decide +kernel
theorem k_walkedR {r i : Nat} (h : r < 9) (hi : i < 9) : kd (9 + r) = 1 ∧ i < ln (9 + r) := ⟨(k_walkedR_all r h).1, by rw [(k_walkedR_all r h).2]; exact hi⟩
theorem k_neighR_all : ∀ r, r < 9 → kd (19 + r) = 1 ∧ ln (19 + r) = 9 := by decide +kernel
theorem k_neighR {r i : Nat} (h : r < 9) (hi : i < 9) : kd (19 + r) = 1 ∧ i < ln (19 + r) := ⟨(k_neighR_all r h).1, by rw [(k_neighR_all r h).2]; exact hi⟩
theorem k_land_all : ∀ r, r < 4 → kd (35 + r) = 2 ∧ ln (35 + r) = 9 := by decide +kernel
theorem k_land {r i : Nat} (h : r < 4) (hi : i < 9) : kd (35 + r) = 2 ∧ i < ln (35 + r) := ⟨(k_land_all r h).1, by rw [(k_land_all r h).2]; exact hi⟩
theorem k_rest_all : ∀ r, r < 4 → kd (39 + r) = 2 ∧ ln (39 + r) = 9 := by decide +kernel
theorem k_rest {r i : Nat} (h : r < 4) (hi : i < 9) : kd (39 + r) = 2 ∧ i < ln (39 + r) := ⟨(k_rest_all r h).1, by rw [(k_rest_all r h).2]; exact hi⟩
theorem k_matR_all : ∀ r, r < 9 → kd (89 + r) = 3 ∧ ln (89 + r) = 9 := by decide +kernel
theorem k_matR {r i : Nat} (h : r < 9) (hi : i < 9) : kd (89 + r) = 3 ∧ i < ln (89 + r) := ⟨(k_matR_all r h).1, by rw [(k_matR_all r h).2]; exact hi⟩
theorem k_send_all : ∀ r, r < 36 → kd (47 + r) = 2 ∧ ln (47 + r) = 9 := by decide +kernel
theorem k_send {w n i : Nat} (h : w < 4) (hn : n < 9) (hi : i < 9) : kd (47 + 9 * w + n) = 2 ∧ i < ln (47 + 9 * w + n) := by
  have := k_send_all (9 * w + n) (by omega)
  rw [Nat.add_assoc]
  exact ⟨this.1, by rw [this.2]; exact hi⟩
theorem k_sendO_all : ∀ r, r < 4 → kd (43 + r) = 5 ∧ ln (43 + r) = 9 ∧ rb (43 + r) = 47 + 9 * r ∧ tn (43 + r) = 5 := by decide +kernel
theorem k_sendO {w i : Nat} (h : w < 4) (hi : i < 9) : kd (43 + w) = 5 ∧ i < ln (43 + w) ∧ rb (43 + w) = 47 + 9 * w ∧ tn (43 + w) = 5 ∧ 4 ≤ 5 ∧ 5 < 8 := by
  have := k_sendO_all w h
  exact ⟨this.1, by rw [this.2.1]; exact hi, this.2.2.1, this.2.2.2, by decide, by decide⟩
theorem k_walk_all : ∀ r, r < 4 → kd (31 + r) = 0 ∧ ob (31 + r) = 7 := by decide +kernel
theorem k_walk {w : Nat} (h : w < 4) : kd (31 + w) = 0 ∧ ob (31 + w) = 7 := k_walk_all w h
theorem k_walkf {w f : Nat} (h : w < 4) (hf : f < 5) : kd (31 + w) = 0 ∧ vwCl[ob (31 + w)]? = some (RX3, TX3, 5) ∧ f < 5 := by
  refine ⟨(k_walk_all w h).1, ?_, hf⟩
  rw [(k_walk_all w h).2]
  rfl
theorem fl_walk {ad : Nat → Nat} {g : Nat → Int32} {w : Nat} (h : w < 4) : fl ad g (31 + w) = [.int (g 1), .ref (ad (35 + w)), .ref (ad (39 + w)), .ref (ad (43 + w)), .int (g 5)] := by
  unfold fl
  rw [if_neg (by omega), if_neg (by omega), if_neg (by omega), if_neg (by omega), if_neg (by omega), if_neg (by omega), show 31 + w + 4 = 35 + w by omega, show 31 + w + 8 = 39 + w by omega, show 31 + w + 12 = 43 + w by omega]
theorem fl_walk0 {ad : Nat → Nat} {g : Nat → Int32} {w : Nat} (h : w < 4) : (fl ad g (31 + w))[0]? = some (.int (g 1)) := by rw [fl_walk h]; rfl
theorem fl_walk1 {ad : Nat → Nat} {g : Nat → Int32} {w : Nat} (h : w < 4) : (fl ad g (31 + w))[1]? = some (.ref (ad (35 + w))) := by rw [fl_walk h]; rfl
theorem fl_walk2 {ad : Nat → Nat} {g : Nat → Int32} {w : Nat} (h : w < 4) : (fl ad g (31 + w))[2]? = some (.ref (ad (39 + w))) := by rw [fl_walk h]; rfl
theorem fl_walk3 {ad : Nat → Nat} {g : Nat → Int32} {w : Nat} (h : w < 4) : (fl ad g (31 + w))[3]? = some (.ref (ad (43 + w))) := by rw [fl_walk h]; rfl
theorem fl_walk4 {ad : Nat → Nat} {g : Nat → Int32} {w : Nat} (h : w < 4) : (fl ad g (31 + w))[4]? = some (.int (g 5)) := by rw [fl_walk h]; rfl
theorem fl_walkL {ad : Nat → Nat} {g : Nat → Int32} {w : Nat} (h : w < 4) : 4 < (fl ad g (31 + w)).length := by rw [fl_walk h]; exact (by decide : 4 < 5)
theorem fl_walkS {ad : Nat → Nat} {I : SI} {w : Nat} {v : Int32} (h : w < 4) : (fl ad (I (31 + w)) (31 + w)).set 4 (.int v) = fl ad (st2 I (31 + w) 5 v (31 + w)) (31 + w) := by
  rw [fl_walk h, fl_walk h]
  simp [st2]
theorem lv_cong {ls : Array Slot} {n : Nat} {l l' : List (Nat × Value)} (h : lv_has ls n l) (e : l = l') : lv_has ls n l' := e ▸ h
theorem w_cong {nW : Nat} {D : va_G} {cA : Nat → ClassId} {ad : Nat → Nat} {I I1 : SI} {J J1 : SJ} {X X1 : SX} {H : Heap} (h : WP nW D cA ad I J X H) (e : I = I1 ∧ J = J1 ∧ X = X1) : WP nW D cA ad I1 J1 X1 H := by
  obtain ⟨rfl, rfl, rfl⟩ := e
  exact h
section WROWS
variable {p : Program} {l : Launch} {e : Env} {R : Room} {s : State} {m : MethodId} {args : Array Value} {below : List Frame} {meth : Method} {c : Code} {H : Heap} {locs : List Loc} {cells slots : Nat} {Q : State → Prop}
variable {nW : Nat} {cc : ByteArray} {pc : Nat} {ls : Array Slot} {rest : List Value} {D : va_G} {cA : Nat → ClassId} {ad : Nat → Nat} {I : SI} {J : SJ} {X : SX} {A : Nat → Prop} {H0 : Heap}
/-- ints of a row -/
theorem w_iald (hexec : p.tables.exec = Jvm.exec) (hb : c.code = cc) (hK : WK D cA s) (hP : WP nW D cA ad I J X H) (k i : Nat) (hk : kd k = 1 ∧ i < ln k) (hkN : k < nW) {x : Int32} (hx : x = nI i) (hdg : decode cc pc = .ok (.iaload, 1))
    (kk : W p l e R s m args below meth c H locs cells slots Q (F0 m (pc + 1) ls (.int (I k i) :: rest))) : W p l e R s m args below meth c H locs cells slots Q (F0 m pc ls (.int x :: .ref (ad k) :: rest)) := by
  have hs := ln_small hk.2
  refine va_iald hexec hb hK hP k 0 ((wld_at hkN).trans (by rw [ent_i hk.1])) rfl (by rw [hx]; exact vp_in_nI hk.2 (ln_small' k)) hdg ?_
  rw [hx, nI_clamp hs]
  exact kk
theorem w_lald (hexec : p.tables.exec = Jvm.exec) (hb : c.code = cc) (hK : WK D cA s) (hP : WP nW D cA ad I J X H) (k i : Nat) (hk : kd k = 2 ∧ i < ln k) (hkN : k < nW) {x : Int32} (hx : x = nI i) (hdg : decode cc pc = .ok (.laload, 1))
    (kk : W p l e R s m args below meth c H locs cells slots Q (F0 m (pc + 1) ls (.long (J k i) :: rest))) : W p l e R s m args below meth c H locs cells slots Q (F0 m pc ls (.int x :: .ref (ad k) :: rest)) := by
  have hs := ln_small hk.2
  refine va_lald hexec hb hK hP k 1 ((wld_at hkN).trans (by rw [ent_j hk.1])) rfl (by rw [hx]; exact vp_in_nI hk.2 (ln_small' k)) hdg ?_
  rw [hx, nI_clamp hs]
  exact kk
theorem w_dald (hexec : p.tables.exec = Jvm.exec) (hb : c.code = cc) (hK : WK D cA s) (hP : WP nW D cA ad I J X H) (k i : Nat) (hk : kd k = 3 ∧ i < ln k) (hkN : k < nW) {x : Int32} (hx : x = nI i) (hdg : decode cc pc = .ok (.daload, 1))
    (kk : W p l e R s m args below meth c H locs cells slots Q (F0 m (pc + 1) ls (.double (X k i) :: rest))) : W p l e R s m args below meth c H locs cells slots Q (F0 m pc ls (.int x :: .ref (ad k) :: rest)) := by
  have hs := ln_small hk.2
  refine va_dald hexec hb hK hP k 2 ((wld_at hkN).trans (by rw [ent_x hk.1])) rfl (by rw [hx]; exact vp_in_nI hk.2 (ln_small' k)) hdg ?_
  rw [hx, nI_clamp hs]
  exact kk
theorem w_topN {x : Int32} {a : Nat} (h : x = nI a) (k : W p l e R s m args below meth c H locs cells slots Q (F0 m pc ls (.int (nI a) :: rest))) : W p l e R s m args below meth c H locs cells slots Q (F0 m pc ls (.int x :: rest)) := by
  rw [h]
  exact k
theorem w_iaddN (hexec : p.tables.exec = Jvm.exec) (hb : c.code = cc) {x y : Int32} {a b : Nat} (h1 : x = nI a) (h2 : y = nI b) (hdg : decode cc pc = .ok (.iadd, 1))
    (k : W p l e R s m args below meth c H locs cells slots Q (F0 m (pc + 1) ls (.int (nI (a + b)) :: rest))) : W p l e R s m args below meth c H locs cells slots Q (F0 m pc ls (.int y :: .int x :: rest)) := by
  refine lv_iadd hexec hb hdg ?_
  rw [wn_iadd h1 h2]
  exact k
theorem w_imulN (hexec : p.tables.exec = Jvm.exec) (hb : c.code = cc) {x y : Int32} {a b : Nat} (h1 : x = nI a) (h2 : y = nI b) (hdg : decode cc pc = .ok (.imul, 1))
    (k : W p l e R s m args below meth c H locs cells slots Q (F0 m (pc + 1) ls (.int (nI (a * b)) :: rest))) : W p l e R s m args below meth c H locs cells slots Q (F0 m pc ls (.int y :: .int x :: rest)) := by
  refine lv_imul hexec hb hdg ?_
  rw [wn_imul h1 h2]
  exact k
/-- a reference of a row -/
theorem w_aald (hexec : p.tables.exec = Jvm.exec) (hb : c.code = cc) (hK : WK D cA s) (hP : WP nW D cA ad I J X H) (k i b t : Nat) (hk : kd k = 5 ∧ i < ln k ∧ rb k = b ∧ tn k = t ∧ 4 ≤ t ∧ t < 8) (hkN : k < nW) {x : Int32} (hx : x = nI i) (hdg : decode cc pc = .ok (.aaload, 1))
    (kk : W p l e R s m args below meth c H locs cells slots Q (F0 m (pc + 1) ls (.ref (ad (b + i)) :: rest))) : W p l e R s m args below meth c H locs cells slots Q (F0 m pc ls (.int x :: .ref (ad k) :: rest)) := by
  obtain ⟨h1, h2, h3, h4, h5, h6⟩ := hk
  subst h3
  subst hx
  have hs := ln_small h2
  have ht : ∃ ty : FieldType, (tysW cA)[tn k]? = some (cA (tn k), ty) ∧ ty.isReference = true := by
    rw [h4]
    rcases (show t = 4 ∨ t = 5 ∨ t = 6 ∨ t = 7 by omega) with q | q | q | q <;> subst q <;> exact ⟨_, rfl, rfl⟩
  obtain ⟨ty, ht, hr⟩ := ht
  have ha : (wld nW cA ad I J X)[k]? = some (ad k, .inl (cA (tn k), ln k, .inr (.inr (.inr (.inr (fun i => if i < ln k then some (ad (rb k + i)) else none)))))) := (wld_at hkN).trans (by rw [ent_q h1])
  have hin : vp_in (nI i) (ln k) := vp_in_nI h2 (ln_small' k)
  have hlt : (nI i).toNatClampNeg < ln k := by rw [nI_clamp hs]; exact h2
  refine W.aald (v := .ref (ad (rb k + i))) (ty := ty) hexec hb (hP k _ ha) ((hK.2 (tn k) _ ht).1 (ln k) (fun j => va_rf (if j < ln k then some (ad (rb k + j)) else none))) hr (fun q => by cases q) (by show ¬ (nI i < 0 ∨ (arrV _ _ _).slots.size ≤ _); rw [arrV_size]; exact hin) (by show (arrV _ _ _).slots[_]? = _; rw [arrV_read _ _ hlt, nI_clamp hs]; show some (va_rf (if i < ln k then some (ad (rb k + i)) else none)) = _; rw [if_pos h2]; rfl) rfl rfl hdg kk
theorem w_iast (hexec : p.tables.exec = Jvm.exec) (hb : c.code = cc) (hK : WK D cA s) (hP : WP nW D cA ad I J X H) (hi : inj nW ad) (hA : ∀ k, k < nW → A (ad k)) (hS : va_S A H0 H locs) (k i : Nat) (hk : kd k = 1 ∧ i < ln k) (hkN : k < nW) {x v : Int32} (hx : x = nI i) (hdg : decode cc pc = .ok (.iastore, 1))
    (kk : ∀ (H1 : Heap) (locs1 : List Loc), WP nW D cA ad (st2 I k i v) J X H1 → va_S A H0 H1 locs1 → W p l e R s m args below meth c H1 locs1 cells slots Q (F0 m (pc + 1) ls rest)) : W p l e R s m args below meth c H locs cells slots Q (F0 m pc ls (.int v :: .int x :: .ref (ad k) :: rest)) := by
  have hs := ln_small hk.2
  refine va_iast hexec hb hK hP (wld_D hi hA) hS k 0 ((wld_at hkN).trans (by rw [ent_i hk.1])) rfl (by rw [hx]; exact vp_in_nI hk.2 (ln_small' k)) hdg (fun H1 locs1 h1 _ h3 => ?_)
  rw [hx, nI_clamp hs, wld_si hk.1] at h1
  exact kk H1 locs1 h1 h3
theorem w_last (hexec : p.tables.exec = Jvm.exec) (hb : c.code = cc) (hK : WK D cA s) (hP : WP nW D cA ad I J X H) (hi : inj nW ad) (hA : ∀ k, k < nW → A (ad k)) (hS : va_S A H0 H locs) (k i : Nat) (hk : kd k = 2 ∧ i < ln k) (hkN : k < nW) {x : Int32} {v : Int64} (hx : x = nI i) (hdg : decode cc pc = .ok (.lastore, 1))
    (kk : ∀ (H1 : Heap) (locs1 : List Loc), WP nW D cA ad I (st2 J k i v) X H1 → va_S A H0 H1 locs1 → W p l e R s m args below meth c H1 locs1 cells slots Q (F0 m (pc + 1) ls rest)) : W p l e R s m args below meth c H locs cells slots Q (F0 m pc ls (.long v :: .int x :: .ref (ad k) :: rest)) := by
  have hs := ln_small hk.2
  refine va_last hexec hb hK hP (wld_D hi hA) hS k 1 ((wld_at hkN).trans (by rw [ent_j hk.1])) rfl (by rw [hx]; exact vp_in_nI hk.2 (ln_small' k)) hdg (fun H1 locs1 h1 _ h3 => ?_)
  rw [hx, nI_clamp hs, wld_sj hk.1] at h1
  exact kk H1 locs1 h1 h3
theorem w_dast (hexec : p.tables.exec = Jvm.exec) (hb : c.code = cc) (hK : WK D cA s) (hP : WP nW D cA ad I J X H) (hi : inj nW ad) (hA : ∀ k, k < nW → A (ad k)) (hS : va_S A H0 H locs) (k i : Nat) (hk : kd k = 3 ∧ i < ln k) (hkN : k < nW) {x : Int32} {v : UInt64} (hx : x = nI i) (hdg : decode cc pc = .ok (.dastore, 1))
    (kk : ∀ (H1 : Heap) (locs1 : List Loc), WP nW D cA ad I J (st2 X k i v) H1 → va_S A H0 H1 locs1 → W p l e R s m args below meth c H1 locs1 cells slots Q (F0 m (pc + 1) ls rest)) : W p l e R s m args below meth c H locs cells slots Q (F0 m pc ls (.double v :: .int x :: .ref (ad k) :: rest)) := by
  have hs := ln_small hk.2
  refine va_dast hexec hb hK hP (wld_D hi hA) hS k 2 ((wld_at hkN).trans (by rw [ent_x hk.1])) rfl (by rw [hx]; exact vp_in_nI hk.2 (ln_small' k)) hdg (fun H1 locs1 h1 _ h3 => ?_)
  rw [hx, nI_clamp hs, wld_sx hk.1] at h1
  exact kk H1 locs1 h1 h3
/-- a field read: the object's number, its class's place, the field's -/
theorem w_get (hexec : p.tables.exec = Jvm.exec) (hb : c.code = cc) {own C : String} {T : u_T} {N index : Nat} {Ts : List Cond} (hts : ∀ w ∈ Ts, w.before args s = true) (hin : ∀ w ∈ u_ws C T N, w ∈ Ts) (hown : s.vm.findClass own = some m.cls) (hK : WK D cA s) (hP : WP nW D cA ad I J X H) (k f : Nat) {v : Value} (hk : kd k = 0 ∧ vwCl[ob k]? = some (C, T, N) ∧ f < N) (hkN : k < nW) (hv : (fl ad (I k) k)[f]? = some v) (hlink : Cond.fieldLink own index C (T f).2.1 (T f).2.2.1 ∈ Ts) (hsame : ∀ x, s.fieldFound? (T f).1 (T f).2.1 (T f).2.2.1 = some x → s.fieldFound? C (T f).2.1 (T f).2.2.1 = some x) (hdg : decode cc pc = .ok (.getfield index, 3))
    (kk : W p l e R s m args below meth c H locs cells slots Q (F0 m (pc + 3) ls (v :: rest))) : W p l e R s m args below meth c H locs cells slots Q (F0 m pc ls (.ref (ad k) :: rest)) :=
  va_get (D := D) (ci := ob k) (v := v) (C := C) (T := T) (N := N) hexec hb hts hin hown hK hP k ((wld_at hkN).trans (by rw [ent_o hk.1])) hk.2.1 f hk.2.2 (hts _ hlink) hsame hv hdg kk
/-- an int field told anew -/
theorem w_put (hexec : p.tables.exec = Jvm.exec) (hb : c.code = cc) {own C : String} {T : u_T} {N index : Nat} {Ts : List Cond} (hts : ∀ w ∈ Ts, w.before args s = true) (hin : ∀ w ∈ u_ws C T N, w ∈ Ts) (ty0 : Nat → FieldType) (hty : ∀ k, k < N → parseFieldDescriptor (T k).2.2.1 = some (ty0 k)) (hnm : ∀ a, a < N → ∀ b, b < N → a ≠ b → (T a).2.1 ≠ (T b).2.1) (hown : s.vm.findClass own = some m.cls) (hK : WK D cA s) (hP : WP nW D cA ad I J X H) (hi : inj nW ad) (hA : ∀ k, k < nW → A (ad k)) (hS : va_S A H0 H locs) (k f : Nat) {v : Int32} (hk : kd k = 0 ∧ vwCl[ob k]? = some (C, T, N) ∧ f < N) (hkN : k < nW) (hv : (fl ad (I k) k).set f (.int v) = fl ad (st2 I k f v k) k) (hl : f < (fl ad (I k) k).length) (hlink : Cond.fieldLink own index C (T f).2.1 (T f).2.2.1 ∈ Ts) (hsame : ∀ x, s.fieldFound? (T f).1 (T f).2.1 (T f).2.2.1 = some x → s.fieldFound? C (T f).2.1 (T f).2.2.1 = some x) (hfin : (T f).2.2.2 = false) (hd : parseFieldDescriptor (T f).2.2.1 = some .int) (hdg : decode cc pc = .ok (.putfield index, 3))
    (kk : ∀ (H1 : Heap) (locs1 : List Loc), WP nW D cA ad (st2 I k f v) J X H1 → va_S A H0 H1 locs1 → W p l e R s m args below meth c H1 locs1 cells slots Q (F0 m (pc + 3) ls rest)) : W p l e R s m args below meth c H locs cells slots Q (F0 m pc ls (.int v :: .ref (ad k) :: rest)) := by
  refine va_put (D := D) (ci := ob k) (v := .int v) (ty := .int) (C := C) (T := T) (N := N) hexec hb hts hin ty0 hty hnm hown hK hP (wld_D hi hA) hS k ((wld_at hkN).trans (by rw [ent_o hk.1])) hk.2.1 f hk.2.2 (hts _ hlink) hsame hfin hd rfl rfl hl hdg (fun H1 locs1 h1 _ h3 => ?_)
  rw [wld_so hk.1 hv] at h1
  exact kk H1 locs1 h1 h3
/-- an int field told anew, its place in the telling another -/
theorem w_putq (hexec : p.tables.exec = Jvm.exec) (hb : c.code = cc) {own C : String} {T : u_T} {N index : Nat} {Ts : List Cond} (hts : ∀ w ∈ Ts, w.before args s = true) (hin : ∀ w ∈ u_ws C T N, w ∈ Ts) (ty0 : Nat → FieldType) (hty : ∀ k, k < N → parseFieldDescriptor (T k).2.2.1 = some (ty0 k)) (hnm : ∀ a, a < N → ∀ b, b < N → a ≠ b → (T a).2.1 ≠ (T b).2.1) (hown : s.vm.findClass own = some m.cls) (hK : WK D cA s) (hP : WP nW D cA ad I J X H) (hi : inj nW ad) (hA : ∀ k, k < nW → A (ad k)) (hS : va_S A H0 H locs) (k f g : Nat) {v : Int32} (hk : kd k = 0 ∧ vwCl[ob k]? = some (C, T, N) ∧ f < N) (hkN : k < nW) (hv : (fl ad (I k) k).set f (.int v) = fl ad (st2 I k g v k) k) (hl : f < (fl ad (I k) k).length) (hlink : Cond.fieldLink own index C (T f).2.1 (T f).2.2.1 ∈ Ts) (hsame : ∀ x, s.fieldFound? (T f).1 (T f).2.1 (T f).2.2.1 = some x → s.fieldFound? C (T f).2.1 (T f).2.2.1 = some x) (hfin : (T f).2.2.2 = false) (hd : parseFieldDescriptor (T f).2.2.1 = some .int) (hdg : decode cc pc = .ok (.putfield index, 3))
    (kk : ∀ (H1 : Heap) (locs1 : List Loc), WP nW D cA ad (st2 I k g v) J X H1 → va_S A H0 H1 locs1 → W p l e R s m args below meth c H1 locs1 cells slots Q (F0 m (pc + 3) ls rest)) : W p l e R s m args below meth c H locs cells slots Q (F0 m pc ls (.int v :: .ref (ad k) :: rest)) := by
  refine va_put (D := D) (ci := ob k) (v := .int v) (ty := .int) (C := C) (T := T) (N := N) hexec hb hts hin ty0 hty hnm hown hK hP (wld_D hi hA) hS k ((wld_at hkN).trans (by rw [ent_o hk.1])) hk.2.1 f hk.2.2 (hts _ hlink) hsame hfin hd rfl rfl hl hdg (fun H1 locs1 h1 _ h3 => ?_)
  rw [wld_sq hk.1 hv] at h1
  exact kk H1 locs1 h1 h3
/-- behind calls that keep to the world -/
theorem w_calli {st0 : List Value} {a : Array Value} {r : Int32} {I1 : SI} {J1 : SJ} {X1 : SX} {mc ms : Nat} (hr : va_Run p l e R s m args below meth c H locs cells slots mc ms (F0 m pc ls st0) rest (qI nW D cA ad H.size r I1 J1 X1 a) (fr nW ad H.size)) (hS : va_S (fr nW ad H0.size) H0 H locs)
    (kk : ∀ (H1 : Heap) (locs1 : List Loc), WP nW D cA ad I1 J1 X1 H1 → va_S (fr nW ad H0.size) H0 H1 locs1 → W p l e R s m args below meth c H1 locs1 (cells + mc) (slots + ms) Q (F0 m (pc + 3) ls (.int r :: rest))) : W p l e R s m args below meth c H locs cells slots Q (F0 m pc ls st0) :=
  va_calli hr hS (fun q _ h => fr_mono hS.1 q h) (fr_mono hS.1) (fun r' u t H1 locs1 ht hvm hp hB hz hk hS1 => by subst hp; subst ht; exact kk _ _ hB.1 hS1)
theorem w_calll {st0 : List Value} {a : Array Value} {r : Int64} {I1 : SI} {J1 : SJ} {X1 : SX} {mc ms : Nat} (hr : va_Run p l e R s m args below meth c H locs cells slots mc ms (F0 m pc ls st0) rest (qL nW D cA ad H.size r I1 J1 X1 a) (fr nW ad H.size)) (hS : va_S (fr nW ad H0.size) H0 H locs)
    (kk : ∀ (H1 : Heap) (locs1 : List Loc), WP nW D cA ad I1 J1 X1 H1 → va_S (fr nW ad H0.size) H0 H1 locs1 → W p l e R s m args below meth c H1 locs1 (cells + mc) (slots + ms) Q (F0 m (pc + 3) ls (.long r :: rest))) : W p l e R s m args below meth c H locs cells slots Q (F0 m pc ls st0) :=
  va_calll hr hS (fun q _ h => fr_mono hS.1 q h) (fr_mono hS.1) (fun r' u t H1 locs1 ht hvm hp hB hz hk hS1 => by subst hp; subst ht; exact kk _ _ hB.1 hS1)
theorem w_calld {st0 : List Value} {a : Array Value} {r : UInt64} {I1 : SI} {J1 : SJ} {X1 : SX} {mc ms : Nat} (hr : va_Run p l e R s m args below meth c H locs cells slots mc ms (F0 m pc ls st0) rest (qD nW D cA ad H.size r I1 J1 X1 a) (fr nW ad H.size)) (hS : va_S (fr nW ad H0.size) H0 H locs)
    (kk : ∀ (H1 : Heap) (locs1 : List Loc), WP nW D cA ad I1 J1 X1 H1 → va_S (fr nW ad H0.size) H0 H1 locs1 → W p l e R s m args below meth c H1 locs1 (cells + mc) (slots + ms) Q (F0 m (pc + 3) ls (.double r :: rest))) : W p l e R s m args below meth c H locs cells slots Q (F0 m pc ls st0) :=
  va_calld hr hS (fun q _ h => fr_mono hS.1 q h) (fr_mono hS.1) (fun r' u t H1 locs1 ht hvm hp hB hz hk hS1 => by subst hp; subst ht; exact kk _ _ hB.1 hS1)
theorem w_callv {st0 : List Value} {a : Array Value} {I1 : SI} {J1 : SJ} {X1 : SX} {mc ms : Nat} (hr : va_Run p l e R s m args below meth c H locs cells slots mc ms (F0 m pc ls st0) rest (qV nW D cA ad H.size I1 J1 X1 a) (fr nW ad H.size)) (hS : va_S (fr nW ad H0.size) H0 H locs)
    (kk : ∀ (H1 : Heap) (locs1 : List Loc), WP nW D cA ad I1 J1 X1 H1 → va_S (fr nW ad H0.size) H0 H1 locs1 → W p l e R s m args below meth c H1 locs1 (cells + mc) (slots + ms) Q (F0 m (pc + 3) ls rest)) : W p l e R s m args below meth c H locs cells slots Q (F0 m pc ls st0) :=
  va_callv hr hS (fun q _ h => fr_mono hS.1 q h) (fr_mono hS.1) (fun u t H1 locs1 ht hvm hp hB hz hk hS1 => by subst ht; exact kk _ _ hB.1 hS1)
/-- ends -/
theorem w_iret {v r : Int32} {I1 : SI} {J1 : SJ} {X1 : SX} (hexec : p.tables.exec = Jvm.exec) (hb : c.code = cc) (hr : meth.sig.returnType = some .int) (hlocks : meth.locks = false) (hK : WK D cA s) (hP : WP nW D cA ad I J X H) (hS : va_S (fr nW ad s.heap.size) s.heap H locs) (he : v = r ∧ I = I1 ∧ J = J1 ∧ X = X1) (hdg : decode cc pc = .ok (.ireturn, 1)) : W p l e R s m args below meth c H locs cells slots (MQ below (qI nW D cA ad s.heap.size r I1 J1 X1) args s cells slots (fr nW ad s.heap.size)) (F0 m pc ls [.int v]) := by
  obtain ⟨rfl, rfl, rfl, rfl⟩ := he
  exact W.iret hexec hb hr (fun t ht hW => ⟨⟨v, (), rfl, rfl, by rw [ht]; exact hP, va_K.moved hW.alike hK⟩, hS.F ht⟩) hS.2.2 hdg hlocks
theorem w_zret {v r : Int32} {ty : FieldType} {I1 : SI} {J1 : SJ} {X1 : SX} (hexec : p.tables.exec = Jvm.exec) (hb : c.code = cc) (hr : meth.sig.returnType = some ty) (hn : narrow ty (.int v) = .int v) (hlocks : meth.locks = false) (hK : WK D cA s) (hP : WP nW D cA ad I J X H) (hS : va_S (fr nW ad s.heap.size) s.heap H locs) (he : v = r ∧ I = I1 ∧ J = J1 ∧ X = X1) (hdg : decode cc pc = .ok (.ireturn, 1)) : W p l e R s m args below meth c H locs cells slots (MQ below (qI nW D cA ad s.heap.size r I1 J1 X1) args s cells slots (fr nW ad s.heap.size)) (F0 m pc ls [.int v]) := by
  obtain ⟨rfl, rfl, rfl, rfl⟩ := he
  exact W.zret hexec hb hr hn (fun t ht hW => ⟨⟨v, (), rfl, rfl, by rw [ht]; exact hP, va_K.moved hW.alike hK⟩, hS.F ht⟩) hS.2.2 hdg hlocks
theorem w_lret {v r : Int64} {I1 : SI} {J1 : SJ} {X1 : SX} (hexec : p.tables.exec = Jvm.exec) (hb : c.code = cc) (hr : meth.sig.returnType = some .long) (hlocks : meth.locks = false) (hK : WK D cA s) (hP : WP nW D cA ad I J X H) (hS : va_S (fr nW ad s.heap.size) s.heap H locs) (he : v = r ∧ I = I1 ∧ J = J1 ∧ X = X1) (hdg : decode cc pc = .ok (.lreturn, 1)) : W p l e R s m args below meth c H locs cells slots (MQ below (qL nW D cA ad s.heap.size r I1 J1 X1) args s cells slots (fr nW ad s.heap.size)) (F0 m pc ls [.long v]) := by
  obtain ⟨rfl, rfl, rfl, rfl⟩ := he
  exact W.lret hexec hb hr (fun t ht hW => ⟨⟨v, (), rfl, rfl, by rw [ht]; exact hP, va_K.moved hW.alike hK⟩, hS.F ht⟩) hS.2.2 hdg hlocks
theorem w_dret {v r : UInt64} {I1 : SI} {J1 : SJ} {X1 : SX} (hexec : p.tables.exec = Jvm.exec) (hb : c.code = cc) (hr : meth.sig.returnType = some .double) (hlocks : meth.locks = false) (hK : WK D cA s) (hP : WP nW D cA ad I J X H) (hS : va_S (fr nW ad s.heap.size) s.heap H locs) (he : v = r ∧ I = I1 ∧ J = J1 ∧ X = X1) (hdg : decode cc pc = .ok (.dreturn, 1)) : W p l e R s m args below meth c H locs cells slots (MQ below (qD nW D cA ad s.heap.size r I1 J1 X1) args s cells slots (fr nW ad s.heap.size)) (F0 m pc ls [.double v]) := by
  obtain ⟨rfl, rfl, rfl, rfl⟩ := he
  exact W.dret hexec hb hr (fun t ht hW => ⟨⟨v, (), rfl, rfl, by rw [ht]; exact hP, va_K.moved hW.alike hK⟩, hS.F ht⟩) hS.2.2 hdg hlocks
theorem w_vret {I1 : SI} {J1 : SJ} {X1 : SX} (hexec : p.tables.exec = Jvm.exec) (hb : c.code = cc) (hr : meth.sig.returnType = none) (hlocks : meth.locks = false) (hK : WK D cA s) (hP : WP nW D cA ad I J X H) (hS : va_S (fr nW ad s.heap.size) s.heap H locs) (he : I = I1 ∧ J = J1 ∧ X = X1) (hdg : decode cc pc = .ok (.return_, 1)) : W p l e R s m args below meth c H locs cells slots (MQ below (qV nW D cA ad s.heap.size I1 J1 X1) args s cells slots (fr nW ad s.heap.size)) (F0 m pc ls []) := by
  obtain ⟨rfl, rfl, rfl⟩ := he
  exact W.vret hexec hb hr (fun t ht hW => ⟨⟨(), rfl, trivial, by rw [ht]; exact hP, va_K.moved hW.alike hK⟩, hS.F ht⟩) hS.2.2 hdg hlocks
end WROWS
