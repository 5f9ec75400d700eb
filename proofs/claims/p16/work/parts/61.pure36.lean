/-! rows of the line of signs: its bytes and count, literals, the JDK's statics -/
def liB : List (List Nat) := [[110, 111, 110, 101], [45, 98], [32, 111, 112, 101, 110], [32, 104, 105, 100, 100, 101, 110], [32, 99, 108, 111, 115, 101, 100], [110, 111, 110, 101], [32, 111, 112, 101, 110], [32, 104, 105, 100, 100, 101, 110], [32, 99, 108, 111, 115, 101, 100]]
def liT : List String := ["none", "-b", " open", " hidden", " closed", "none", " open", " hidden", " closed"]
def liI : List Nat := [213, 225, 231, 233, 235, 213, 231, 233, 235]
def liO (_ : Nat) : String := RX4
def liL (i : Nat) : List Nat := liB.getD i []
def liN (i : Nat) : Nat := (liL i).length
def liC (i j : Nat) : Int32 := nI ((liL i).getD j 0)
theorem liN_le : ∀ i, i < 9 → liN i ≤ 7 := by decide
theorem li_small : ∀ i, i < 9 → ∀ j, (liL i).getD j 0 < 128 := by
  have h : ∀ i, i < 9 → ∀ x ∈ liL i, x < 128 := by decide
  intro i hi j
  by_cases hj : j < (liL i).length
  · rw [List.getD_eq_getElem?_getD, List.getElem?_eq_getElem hj]; exact h i hi _ (List.getElem_mem hj)
  · rw [List.getD_eq_getElem?_getD, List.getElem?_eq_none (Nat.le_of_not_lt hj)]; decide
/-- a literal: where it lies, and what it says -/
def LI (K V : Nat → Nat) (A : Nat → Prop) (U : State) (H : Heap) (i : Nat) : Prop := va_O RJ0 (K i) A U H ∧ va_OF RJ0 "coder" "B" (.int 0) (K i) A U H ∧ va_OF RJ0 "value" "[B" (.ref (V i)) (K i) A U H ∧ va_T .byte (V i) (liN i) (fun j => .int (liC i j)) A U H ∧ vk_R (liO i) (liI.getD i 0) (liT.getD i "") (K i) U
abbrev sioD : String := "Ljava/util/function/BiFunction;"
abbrev sioC : String := "jdk/internal/util/Preconditions"
def XL (nW : Nat) (ad K V : Nat → Nat) (tO tT sz : Nat) (U : State) : Prop := va_Z RJ0 "COMPACT_STRINGS" "Z" (.int 1) (fr nW ad sz) U U.heap ∧ va_Zq sioC "SIOOBE_FORMATTER" sioD (fr nW ad sz) U U.heap ∧
  (va_Z RJ6 "DigitOnes" "[B" (.ref tO) (fr nW ad sz) U U.heap ∧ va_T .byte tO 100 (fun j => .int (nI (48 + j % 10))) (fr nW ad sz) U U.heap) ∧
  (va_Z RJ6 "DigitTens" "[B" (.ref tT) (fr nW ad sz) U U.heap ∧ va_T .byte tT 100 (fun j => .int (nI (48 + j / 10))) (fr nW ad sz) U U.heap) ∧
  ∀ i, i < 9 → LI K V (fr nW ad sz) U U.heap i
theorem XL.go {nW : Nat} {ad K V : Nat → Nat} {tO tT : Nat} {s U : State} {H : Heap} {locs : List Loc} (h : XL nW ad K V tO tT s.heap.size s) (hS : va_S (fr nW ad s.heap.size) s.heap H locs) (hU : U.heap = H) (hW : s.WarmedH U.vm) : XL nW ad K V tO tT H.size U := by
  obtain ⟨h1, h2, ⟨h3, h4⟩, ⟨h5, h6⟩, h7⟩ := h
  have ha := hW.alike
  have hn := fr_mono (nW := nW) (ad := ad) hS.1
  refine ⟨by rw [hU]; exact ((va_Z.moved ha h1).kept hS.2.1).narrow hn, by rw [hU]; exact ((va_Zq.moved ha h2).kept hS.2.1).narrow hn, ⟨by rw [hU]; exact ((va_Z.moved ha h3).kept hS.2.1).narrow hn, by rw [hU]; exact ((va_T.moved ha h4).kept hS.2.1).narrow hn⟩, ⟨by rw [hU]; exact ((va_Z.moved ha h5).kept hS.2.1).narrow hn, by rw [hU]; exact ((va_T.moved ha h6).kept hS.2.1).narrow hn⟩, fun i hi => ?_⟩
  obtain ⟨g1, g2, g3, g4, g5⟩ := h7 i hi
  exact ⟨by rw [hU]; exact ((va_O.moved ha g1).kept hS.2.1).narrow hn, by rw [hU]; exact ((va_OF.moved ha g2).kept hS.2.1).narrow hn, by rw [hU]; exact ((va_OF.moved ha g3).kept hS.2.1).narrow hn, by rw [hU]; exact ((va_T.moved ha g4).kept hS.2.1).narrow hn, g5.warm hW⟩
theorem XL.same {nW : Nat} {ad K V : Nat → Nat} {tO tT sz : Nat} {u U : State} (hv : U.vm = u.vm) (hh : U.heap = u.heap) (h : XL nW ad K V tO tT sz u) : XL nW ad K V tO tT sz U := by
  have ha : u.vm.Alike U.vm := by rw [hv]; exact Vm.Alike.refl u.vm
  obtain ⟨h1, h2, ⟨h3, h4⟩, ⟨h5, h6⟩, h7⟩ := h
  refine ⟨by rw [hh]; exact va_Z.moved ha h1, by rw [hh]; exact va_Zq.moved ha h2, ⟨by rw [hh]; exact va_Z.moved ha h3, by rw [hh]; exact va_T.moved ha h4⟩, ⟨by rw [hh]; exact va_Z.moved ha h5, by rw [hh]; exact va_T.moved ha h6⟩, fun i hi => ?_⟩
  obtain ⟨g1, g2, g3, g4, g5⟩ := h7 i hi
  exact ⟨by rw [hh]; exact va_O.moved ha g1, by rw [hh]; exact va_OF.moved ha g2, by rw [hh]; exact va_OF.moved ha g3, by rw [hh]; exact va_T.moved ha g4, g5.same hv⟩
def wPreL (nW : Nat) (D : va_G) (cA : Nat → ClassId) (ad K V : Nat → Nat) (tO tT : Nat) (I : SI) (J : SJ) (X : SX) (sz : Nat) : State → Prop := fun U => wPre nW D cA ad I J X sz U ∧ XL nW ad K V tO tT sz U
theorem wPreL_blind {nW : Nat} {D : va_G} {cA : Nat → ClassId} {ad K V : Nat → Nat} {tO tT : Nat} {I : SI} {J : SJ} {X : SX} {sz : Nat} {As : List Value} : FrameBlind (va_Pc As (wPreL nW D cA ad K V tO tT I J X sz)) := fun a U g mk q => ⟨q.1, ⟨q.2.1.1, q.2.1.2.1, va_K.moved (u := U) (U := U.calling g mk a) (Vm.Alike.refl U.vm) q.2.1.2.2⟩, q.2.2.same (U := U.calling g mk a) rfl rfl⟩
theorem w_preSL {nW : Nat} {s : State} {H : Heap} {locs : List Loc} {D : va_G} {cA : Nat → ClassId} {ad K V : Nat → Nat} {tO tT : Nat} {I : SI} {J : SJ} {X : SX} {As : List Value} (hK : WK D cA s) (hP : WP nW D cA ad I J X H) (hX : XL nW ad K V tO tT s.heap.size s) (hS : va_S (fr nW ad s.heap.size) s.heap H locs) : PreS s H (va_Pc As (wPreL nW D cA ad K V tO tT I J X H.size)) As := ⟨wPreL_blind, fun U hU hW => ⟨rfl, ⟨by rw [hU], by rw [hU]; exact hP, va_K.moved hW.alike hK⟩, hX.go hS hU hW⟩⟩
theorem w_preVL {nW : Nat} {s : State} {H : Heap} {locs : List Loc} {D : va_G} {cA : Nat → ClassId} {ad K V : Nat → Nat} {tO tT : Nat} {I : SI} {J : SJ} {X : SX} {As : List Value} (hK : WK D cA s) (hP : WP nW D cA ad I J X H) (hX : XL nW ad K V tO tT s.heap.size s) (hS : va_S (fr nW ad s.heap.size) s.heap H locs) (k : Nat) (hkN : k < nW) {ci : Nat} {q : vw_C} (hk : kd k = 0 ∧ ob k = ci) (hq : vwCl[ci]? = some q) : PreV s H q.1 (ad k) (va_Pc (.ref (ad k) :: As) (wPreL nW D cA ad K V tO tT I J X H.size)) As := ⟨wPreL_blind, va_recv hK hP hq ((wld_at hkN).trans (by rw [ent_o hk.1, hk.2])), fun U hU hW => ⟨rfl, ⟨by rw [hU], by rw [hU]; exact hP, va_K.moved hW.alike hK⟩, hX.go hS hU hW⟩⟩
theorem li_recv {K V : Nat → Nat} {A : Nat → Prop} {s : State} {H : Heap} {locs : List Loc} {i : Nat} (h : LI K V A s s.heap i) (hS : va_S A s.heap H locs) : ∃ cell : Cell, H[K i]? = some cell ∧ cell.vm.isStatics = false ∧ s.vm.findClass RJ0 = some cell.cls := by
  obtain ⟨cell, h1, h2, h3, -⟩ := h.1.kept hS.2.1
  exact ⟨cell, h1, h2, h3⟩
theorem w_preLi {nW : Nat} {s : State} {H : Heap} {locs : List Loc} {D : va_G} {cA : Nat → ClassId} {ad K V : Nat → Nat} {tO tT : Nat} {I : SI} {J : SJ} {X : SX} {As : List Value} (hK : WK D cA s) (hP : WP nW D cA ad I J X H) (hX : XL nW ad K V tO tT s.heap.size s) (hS : va_S (fr nW ad s.heap.size) s.heap H locs) (i : Nat) (hi : i < 9) : PreV s H RJ0 (K i) (va_Pc (.ref (K i) :: As) (wPreL nW D cA ad K V tO tT I J X H.size)) As := ⟨wPreL_blind, li_recv (hX.2.2.2.2 i hi) hS, fun U hU hW => ⟨rfl, ⟨by rw [hU], by rw [hU]; exact hP, va_K.moved hW.alike hK⟩, hX.go hS hU hW⟩⟩
/-- an answer that is a told cell -/
abbrev qA (nW : Nat) (D : va_G) (cA : Nat → ClassId) (ad : Nat → Nat) (sz : Nat) (r : Nat) (I : SI) (J : SJ) (X : SX) := va_Qr (fun (_ : Unit) => True) (fun (_ : Unit) (a : Nat) (t : State) => a = r ∧ WP nW D cA ad I J X t.heap ∧ WK D cA t) (fr nW ad sz)
theorem sh_r0 (x : Int32) : x >>> ((0 : Int32) &&& 31) = x := by
  show x >>> (0 : Int32) = x
  simp
theorem sh_l0 (x : Int32) : x <<< ((0 : Int32) &&& 31) = x := by
  show x <<< (0 : Int32) = x
  simp
theorem nI_b : ∀ n, n < 128 → (nI n).toInt8.toInt32 = nI n := by decide +kernel
theorem nI_n8 : ∀ n, n < 128 → vp_nar .byte (nI n) = nI n := by decide +kernel
theorem nI_c : ∀ n, n < 128 → ((nI n &&& 255).toUInt32 % 65536).toInt32 = nI n := by decide +kernel
theorem nI_nc : ∀ n, n < 128 → narrow .char (.int (nI n)) = .int (nI n) := by decide +kernel
theorem nI_fb : ∀ n, n < 128 → fits .byte (.int (nI n)) = true := by decide +kernel
/-- a row told anew as a whole -/
def st1 (I : SI) (k : Nat) (g : Nat → Int32) : SI := fun a => if a = k then g else I a
section LROWS
variable {p : Program} {l : Launch} {e : Env} {R : Room} {s : State} {m : MethodId} {args : Array Value} {below : List Frame} {meth : Method} {c : Code} {H : Heap} {locs : List Loc} {cells slots : Nat} {Q : State → Prop}
variable {nW : Nat} {cc : ByteArray} {pc : Nat} {ls : Array Slot} {rest : List Value} {D : va_G} {cA : Nat → ClassId} {ad : Nat → Nat} {I : SI} {J : SJ} {X : SX} {A : Nat → Prop} {H0 : Heap}
theorem w_alen (hexec : p.tables.exec = Jvm.exec) (hb : c.code = cc) (hK : WK D cA s) (hP : WP nW D cA ad I J X H) (hN : 101 < nW) (hdg : decode cc pc = .ok (.arraylength, 1))
    (kk : W p l e R s m args below meth c H locs cells slots Q (F0 m (pc + 1) ls (.int (nI 16) :: rest))) : W p l e R s m args below meth c H locs cells slots Q (F0 m pc ls (.ref (ad 101) :: rest)) :=
  va_alen (v := nI 16) (x := (16, .inl (I 101))) hexec hb hK hP 101 3 ((wld_at hN).trans (by rw [ent_b rfl]; rfl)) rfl rfl hdg kk
theorem w_bald (hexec : p.tables.exec = Jvm.exec) (hb : c.code = cc) (hK : WK D cA s) (hP : WP nW D cA ad I J X H) (hN : 101 < nW) (i : Nat) (hi : i < 16) {x : Int32} (hx : x = nI i) (hdg : decode cc pc = .ok (.baload, 1))
    (kk : W p l e R s m args below meth c H locs cells slots Q (F0 m (pc + 1) ls (.int (I 101 i) :: rest))) : W p l e R s m args below meth c H locs cells slots Q (F0 m pc ls (.int x :: .ref (ad 101) :: rest)) := by
  refine va_bald hexec hb hK hP 101 3 ((wld_at hN).trans (by rw [ent_b rfl])) rfl (by rw [hx]; exact vp_in_nI (N := 16) hi (by decide)) hdg ?_
  rw [hx, nI_clamp (by omega)]
  exact kk
theorem wld_sb {i : Nat} {v : Int32} : (wld nW cA ad I J X).set 101 (ad 101, .inl (cA 3, 16, .inl (upd (I 101) i v))) = wld nW cA ad (st2 I 101 i v) J X := wld_set (by rw [ent_b rfl, upd_I]; rfl) ent_I
theorem w_bast (hexec : p.tables.exec = Jvm.exec) (hb : c.code = cc) (hK : WK D cA s) (hP : WP nW D cA ad I J X H) (hi : inj nW ad) (hA : ∀ k, k < nW → A (ad k)) (hS : va_S A H0 H locs) (hN : 101 < nW) (i : Nat) (hi16 : i < 16) {x v w : Int32} (hx : x = nI i) (hv : vp_nar .byte v = w) (hdg : decode cc pc = .ok (.bastore, 1))
    (kk : ∀ (H1 : Heap) (locs1 : List Loc), WP nW D cA ad (st2 I 101 i w) J X H1 → va_S A H0 H1 locs1 → W p l e R s m args below meth c H1 locs1 cells slots Q (F0 m (pc + 1) ls rest)) : W p l e R s m args below meth c H locs cells slots Q (F0 m pc ls (.int v :: .int x :: .ref (ad 101) :: rest)) := by
  refine va_bast hexec hb hK hP (wld_D hi hA) hS 101 3 ((wld_at hN).trans (by rw [ent_b rfl]; rfl)) rfl (n := 16) (by rw [hx]; exact vp_in_nI hi16 (by decide)) hdg (fun H1 locs1 h1 _ h3 => ?_)
  rw [hx, nI_clamp (by omega), hv, wld_sb] at h1
  exact kk H1 locs1 h1 h3
theorem w_lget (hexec : p.tables.exec = Jvm.exec) (hb : c.code = cc) {own ref : String} {index : Nat} {Ts : List Cond} (hts : ∀ w ∈ Ts, w.before args s = true) (hin : ∀ w ∈ wsJ40, w ∈ Ts) (hown : s.vm.findClass own = some m.cls) (hK : WK D cA s) (hP : WP nW D cA ad I J X H) (hN : 101 < nW) (f : Nat) {v : Value} (hf : f < 4) (hv : (fl ad (I 100) 100)[f]? = some v) (hlink : Cond.fieldLink own index ref (TJ4 f).2.1 (TJ4 f).2.2.1 ∈ Ts) (hsame : ∀ x, s.fieldFound? (TJ4 f).1 (TJ4 f).2.1 (TJ4 f).2.2.1 = some x → s.fieldFound? ref (TJ4 f).2.1 (TJ4 f).2.2.1 = some x) (hdg : decode cc pc = .ok (.getfield index, 3))
    (kk : W p l e R s m args below meth c H locs cells slots Q (F0 m (pc + 3) ls (v :: rest))) : W p l e R s m args below meth c H locs cells slots Q (F0 m pc ls (.ref (ad 100) :: rest)) :=
  va_get (D := D) (ci := 1) (v := v) (C := RJ4) (T := TJ4) (N := 4) hexec hb hts hin hown hK hP 100 ((wld_at (by omega)).trans (by rw [ent_o rfl]; rfl)) rfl f hf (hts _ hlink) hsame hv hdg kk
theorem w_lput (hexec : p.tables.exec = Jvm.exec) (hb : c.code = cc) {own ref : String} {index : Nat} {Ts : List Cond} (hts : ∀ w ∈ Ts, w.before args s = true) (hin : ∀ w ∈ wsJ40, w ∈ Ts) (hown : s.vm.findClass own = some m.cls) (hK : WK D cA s) (hP : WP nW D cA ad I J X H) (hi : inj nW ad) (hA : ∀ k, k < nW → A (ad k)) (hS : va_S A H0 H locs) (hN : 101 < nW) (f : Nat) {v : Int32} {ty : FieldType} (hf : f < 4) (hv : (fl ad (I 100) 100).set f (.int v) = fl ad (st2 I 100 f v 100) 100) (hd : parseFieldDescriptor (TJ4 f).2.2.1 = some ty) (hn : narrow ty (.int v) = .int v) (hfit : fits ty (.int v) = true) (hfin : (TJ4 f).2.2.2 = false) (hlink : Cond.fieldLink own index ref (TJ4 f).2.1 (TJ4 f).2.2.1 ∈ Ts) (hsame : ∀ x, s.fieldFound? (TJ4 f).1 (TJ4 f).2.1 (TJ4 f).2.2.1 = some x → s.fieldFound? ref (TJ4 f).2.1 (TJ4 f).2.2.1 = some x) (hdg : decode cc pc = .ok (.putfield index, 3))
    (kk : ∀ (H1 : Heap) (locs1 : List Loc), WP nW D cA ad (st2 I 100 f v) J X H1 → va_S A H0 H1 locs1 → W p l e R s m args below meth c H1 locs1 cells slots Q (F0 m (pc + 3) ls rest)) : W p l e R s m args below meth c H locs cells slots Q (F0 m pc ls (.int v :: .ref (ad 100) :: rest)) := by
  refine va_put (D := D) (ci := 1) (v := .int v) (ty := ty) (C := RJ4) (T := TJ4) (N := 4) hexec hb hts hin tyJ4 tyJ4_ok nmJ4 hown hK hP (wld_D hi hA) hS 100 ((wld_at (by omega)).trans (by rw [ent_o rfl]; rfl)) rfl f hf (hts _ hlink) hsame hfin hd hn hfit (by show f < 4; exact hf) hdg (fun H1 locs1 h1 _ h3 => ?_)
  have h2 : va_P D vwCl ((wld nW cA ad I J X).set 100 (ad 100, .inr (ob 100, (fl ad (I 100) 100).set f (.int v)))) H1 := h1
  rw [wld_so rfl hv] at h2
  exact kk H1 locs1 h2 h3
theorem w_aret {r : Nat} {I1 : SI} {J1 : SJ} {X1 : SX} {v : Nat} {rt : FieldType} (hexec : p.tables.exec = Jvm.exec) (hb : c.code = cc) (hr : meth.sig.returnType = some rt) (hrt : ∃ n, rt = .object n) (hlocks : meth.locks = false) (hK : WK D cA s) (hP : WP nW D cA ad I J X H) (hS : va_S (fr nW ad s.heap.size) s.heap H locs) (he : v = r ∧ I = I1 ∧ J = J1 ∧ X = X1) (hdg : decode cc pc = .ok (.areturn, 1)) : W p l e R s m args below meth c H locs cells slots (MQ below (qA nW D cA ad s.heap.size r I1 J1 X1) args s cells slots (fr nW ad s.heap.size)) (F0 m pc ls [.ref v]) := by
  obtain ⟨rfl, rfl, rfl, rfl⟩ := he
  exact W.aret hexec hb hr (Or.inl hrt) (Or.inr ⟨v, rfl⟩) (fun t ht hW => ⟨⟨(), v, rfl, trivial, rfl, by rw [ht]; exact hP, va_K.moved hW.alike hK⟩, hS.F ht⟩) hS.2.2 hdg hlocks
theorem w_callr {st0 : List Value} {a : Array Value} {r : Nat} {I1 : SI} {J1 : SJ} {X1 : SX} {mc ms : Nat} (hr : va_Run p l e R s m args below meth c H locs cells slots mc ms (F0 m pc ls st0) rest (qA nW D cA ad H.size r I1 J1 X1 a) (fr nW ad H.size)) (hS : va_S (fr nW ad H0.size) H0 H locs)
    (kk : ∀ (H1 : Heap) (locs1 : List Loc), WP nW D cA ad I1 J1 X1 H1 → va_S (fr nW ad H0.size) H0 H1 locs1 → W p l e R s m args below meth c H1 locs1 (cells + mc) (slots + ms) Q (F0 m (pc + 3) ls (.ref r :: rest))) : W p l e R s m args below meth c H locs cells slots Q (F0 m pc ls st0) :=
  va_callr hr hS (fun q _ h => fr_mono hS.1 q h) (fr_mono hS.1) (fun u ra t H1 locs1 ht hvm hp hB hz hk hS1 => by obtain ⟨e1, h2, h3⟩ := hB; subst e1; subst ht; exact kk _ _ h2 hS1)
/-- a literal's bytes are copied behind what the line holds -/
theorem w_cpy (hexec : p.tables.exec = Jvm.exec) (hb : c.code = cc) (hml : c.maxLocals = ls.size) {own : String} {index : Nat} (hown : s.vm.findClass own = some m.cls) (hlink : (Cond.methodLink own index arraycopyName).before args s = true) (hnat : (Cond.native arraycopyName).before args s = true) (hstat : (Cond.static arraycopyName).before args s = true) (hini : (Cond.initialized "java/lang/System").before args s = true)
    (hK : WK D cA s) (hP : WP nW D cA ad I J X H) (hi : inj nW ad) (hA : ∀ k, k < nW → A (ad k)) (hS : va_S A s.heap H locs) (hN : 101 < nW) {K V : Nat → Nat} {i : Nat} (hi9 : i < 9) (hLi : LI K V A s s.heap i) {dp n : Nat} {x y : Int32} (hd : x = nI dp) (hn : y = nI n) (hle : n ≤ liN i) (h16 : dp + n ≤ 16) (hframes : 1 ≤ R.frames) (hlocals : (rest.map fun v => v.category).sum + (nativeFrameWords "java/lang/System" "arraycopy" 5 + 11) ≤ R.locals) (hdg : decode cc pc = .ok (.invokestatic index, 3))
    (kk : ∀ (H1 : Heap) (locs1 : List Loc), WP nW D cA ad (st1 I 101 (va_cpy (liC i) (I 101) 0 dp n)) J X H1 → va_S A s.heap H1 locs1 → W p l e R s m args below meth c H1 locs1 cells slots Q (F0 m (pc + 3) ls rest)) : W p l e R s m args below meth c H locs cells slots Q (F0 m pc ls (.int y :: .int x :: .ref (ad 101) :: .int 0 :: .ref (V i) :: rest)) := by
  subst hd; subst hn
  have hl7 := liN_le i hi9
  have c1 : (nI dp).toNatClampNeg = dp := nI_clamp (by omega)
  have c2 : (nI n).toNatClampNeg = n := nI_clamp (by omega)
  have c0 : (0 : Int32).toNatClampNeg = 0 := rfl
  refine vk_copyt hexec hb hml hown hlink hnat hstat hini hK hP (wld_D hi hA) hS (f := liC i) (n0 := liN i) hLi.2.2.2.1 101 3 (n1 := 16) ((wld_at hN).trans (by rw [ent_b rfl]; rfl)) rfl (by decide) (nI_pos (by omega)) (nI_pos (by omega)) (by rw [c0, c2]; omega) (by rw [c1, c2]; exact h16) (fun j hj => nI_fb _ (li_small i hi9 _)) hframes hlocals hdg (fun H1 locs1 h1 _ h3 => ?_)
  rw [c0, c1, c2] at h1
  have e : (wld nW cA ad I J X).set 101 (ad 101, .inl (cA 3, 16, .inl (va_cpy (liC i) (I 101) 0 dp n))) = wld nW cA ad (st1 I 101 (va_cpy (liC i) (I 101) 0 dp n)) J X := wld_set (by rw [ent_b rfl]; simp [st1]; rfl) (fun j hj => by
    simp only [ent, st1, if_neg hj])
  rw [e] at h1
  exact kk H1 locs1 h1 h3
end LROWS
