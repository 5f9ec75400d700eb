/-! The one world of all cells: class, reference, the law's two rows. A cell has a number; what ints, longs, doubles it holds is said by three functions of number and place. -/
abbrev SI : Type := Nat → Nat → Int32
abbrev SJ : Type := Nat → Nat → Int64
abbrev SX : Type := Nat → Nat → UInt64
/-- kinds: 0 an object, 1 ints, 2 longs, 3 doubles, 4 bytes, 5 references, 9 none -/
def kdL : List Nat := [0, 0, 5, 1, 1, 1, 1, 1, 5, 1, 1, 1, 1, 1, 1, 1, 1, 1, 5, 1, 1, 1, 1, 1, 1, 1, 1, 1, 1, 1, 5, 0, 0, 0, 0, 2, 2, 2, 2, 2, 2, 2, 2, 5, 5, 5, 5, 2, 2, 2, 2, 2, 2, 2, 2, 2, 2, 2, 2, 2, 2, 2, 2, 2, 2, 2, 2, 2, 2, 2, 2, 2, 2, 2, 2, 2, 2, 2, 2, 2, 2, 2, 2, 0, 2, 1, 1, 0, 5, 3, 3, 3, 3, 3, 3, 3, 3, 3, 3, 3, 0, 4, 0, 1, 1, 2, 2, 2, 3, 3, 3, 1, 1, 1, 2, 3]
def lnL : List Nat := [0, 0, 4, 5, 5, 5, 5, 5, 9, 9, 9, 9, 9, 9, 9, 9, 9, 9, 9, 9, 9, 9, 9, 9, 9, 9, 9, 9, 9, 9, 4, 0, 0, 0, 0, 9, 9, 9, 9, 9, 9, 9, 9, 9, 9, 9, 9, 9, 9, 9, 9, 9, 9, 9, 9, 9, 9, 9, 9, 9, 9, 9, 9, 9, 9, 9, 9, 9, 9, 9, 9, 9, 9, 9, 9, 9, 9, 9, 9, 9, 9, 9, 9, 0, 20, 20, 20, 0, 9, 9, 9, 9, 9, 9, 9, 9, 9, 9, 9, 9, 0, 16, 0, 20, 5, 36, 36, 324, 81, 9, 9, 12, 12, 12, 1, 1]
def kd (k : Nat) : Nat := kdL.getD k 9
def ln (k : Nat) : Nat := lnL.getD k 0
/-- a row of references: where its cells begin, and its type's number -/
def rb (k : Nat) : Nat := if k = 2 then 3 else if k = 8 then 9 else if k = 18 then 19 else if k = 30 then 31 else if k = 88 then 89 else 47 + 9 * (k - 43)
def tn (k : Nat) : Nat := if k = 2 then 4 else if k = 8 then 4 else if k = 18 then 4 else if k = 30 then 7 else if k = 88 then 6 else 5
/-- an object's class, by its place in vwCl -/
def ob (k : Nat) : Nat := if k = 0 then 8 else if k = 1 then 5 else if k = 83 then 6 else if k = 87 then 4 else if k = 100 then 1 else if k = 102 then 9 else 7
def fl (ad : Nat → Nat) (g : Nat → Int32) (k : Nat) : List Value :=
  if k = 0 then [.ref (ad 1), .ref (ad 30), .ref (ad 83), .ref (ad 87), .ref (ad 100), .int (g 5), .int (g 6)]
  else if k = 1 then [.ref (ad 2), .ref (ad 7), .ref (ad 8), .ref (ad 18), .ref (ad 28), .ref (ad 29)]
  else if k = 83 then [.ref (ad 84), .ref (ad 85), .ref (ad 86), .int (g 3)]
  else if k = 87 then [.ref (ad 88), .ref (ad 98), .ref (ad 99)]
  else if k = 100 then [.ref (ad 101), .int (g 1), .int (g 2), .int (g 3)]
  else if k = 102 then [.ref (ad 103), .ref (ad 104), .int (g 2), .int (g 3), .int (g 4), .ref (ad 105), .ref (ad 106), .ref (ad 107), .ref (ad 108), .ref (ad 109), .ref (ad 110), .ref (ad 111), .ref (ad 112), .ref (ad 113), .int (g 14)]
  else [.int (g 1), .ref (ad (k + 4)), .ref (ad (k + 8)), .ref (ad (k + 12)), .int (g 5)]
def ent (cA : Nat → ClassId) (ad : Nat → Nat) (I : SI) (J : SJ) (X : SX) (k : Nat) : va_E :=
  if kd k = 1 then .inl (cA 0, ln k, .inl (I k))
  else if kd k = 2 then .inl (cA 1, ln k, .inr (.inl (J k)))
  else if kd k = 3 then .inl (cA 2, ln k, .inr (.inr (.inr (.inl (X k)))))
  else if kd k = 4 then .inl (cA 3, ln k, .inl (I k))
  else if kd k = 5 then .inl (cA (tn k), ln k, .inr (.inr (.inr (.inr (fun i => if i < ln k then some (ad (rb k + i)) else none)))))
  else .inr (ob k, fl ad (I k) k)
def wld (nW : Nat) (cA : Nat → ClassId) (ad : Nat → Nat) (I : SI) (J : SJ) (X : SX) : va_W := (List.range nW).map (fun k => (ad k, ent cA ad I J X k))
def tysW (cA : Nat → ClassId) : List (ClassId × FieldType) := [(cA 0, .int), (cA 1, .long), (cA 2, .double), (cA 3, .byte), (cA 4, .array .int), (cA 5, .array .long), (cA 6, .array .double), (cA 7, .object "Shelfwalk$Walk")]
/-- a place of a cell told anew -/
def st2 {α : Type} (F : Nat → Nat → α) (k i : Nat) (v : α) : Nat → Nat → α := fun a b => if a = k ∧ b = i then v else F a b
theorem st2_s {α : Type} (F : Nat → Nat → α) (k i : Nat) (v : α) : st2 F k i v k i = v := by simp [st2]
theorem st2_n {α : Type} (F : Nat → Nat → α) {k i a b : Nat} (v : α) (h : ¬ (a = k ∧ b = i)) : st2 F k i v a b = F a b := if_neg h
theorem st2_k {α : Type} (F : Nat → Nat → α) {k i a : Nat} (v : α) (h : a ≠ k) : st2 F k i v a = F a := funext fun _ => if_neg (fun q => h q.1)
theorem wld_at {nW : Nat} {cA : Nat → ClassId} {ad : Nat → Nat} {I : SI} {J : SJ} {X : SX} {k : Nat} (h : k < nW) : (wld nW cA ad I J X)[k]? = some (ad k, ent cA ad I J X k) := by
  simp [wld, h]
theorem wld_set {nW : Nat} {cA : Nat → ClassId} {ad : Nat → Nat} {I I' : SI} {J J' : SJ} {X X' : SX} {k : Nat} {e : va_E} (h1 : ent cA ad I' J' X' k = e) (h2 : ∀ i, i ≠ k → ent cA ad I' J' X' i = ent cA ad I J X i) : (wld nW cA ad I J X).set k (ad k, e) = wld nW cA ad I' J' X' := by
  apply List.ext_getElem?
  intro i
  rcases Nat.lt_or_ge i nW with hi | hi
  · rw [wld_at hi]
    by_cases hk : i = k
    · subst hk
      rw [List.getElem?_set_self (by simp [wld]; exact hi), h1]
    · rw [List.getElem?_set_ne (Ne.symm hk), wld_at hi, h2 i hk]
  · rw [List.getElem?_eq_none (by simp [wld]; exact hi), List.getElem?_eq_none (by simp [wld]; exact hi)]
theorem ent_i {cA : Nat → ClassId} {ad : Nat → Nat} {I : SI} {J : SJ} {X : SX} {k : Nat} (h : kd k = 1) : ent cA ad I J X k = .inl (cA 0, ln k, .inl (I k)) := by simp [ent, h]
theorem ent_j {cA : Nat → ClassId} {ad : Nat → Nat} {I : SI} {J : SJ} {X : SX} {k : Nat} (h : kd k = 2) : ent cA ad I J X k = .inl (cA 1, ln k, .inr (.inl (J k))) := by simp [ent, h]
theorem ent_x {cA : Nat → ClassId} {ad : Nat → Nat} {I : SI} {J : SJ} {X : SX} {k : Nat} (h : kd k = 3) : ent cA ad I J X k = .inl (cA 2, ln k, .inr (.inr (.inr (.inl (X k))))) := by simp [ent, h]
theorem ent_b {cA : Nat → ClassId} {ad : Nat → Nat} {I : SI} {J : SJ} {X : SX} {k : Nat} (h : kd k = 4) : ent cA ad I J X k = .inl (cA 3, ln k, .inl (I k)) := by simp [ent, h]
theorem ent_q {cA : Nat → ClassId} {ad : Nat → Nat} {I : SI} {J : SJ} {X : SX} {k : Nat} (h : kd k = 5) : ent cA ad I J X k = .inl (cA (tn k), ln k, .inr (.inr (.inr (.inr (fun i => if i < ln k then some (ad (rb k + i)) else none))))) := by simp [ent, h]
theorem ent_o {cA : Nat → ClassId} {ad : Nat → Nat} {I : SI} {J : SJ} {X : SX} {k : Nat} (h : kd k = 0) : ent cA ad I J X k = .inr (ob k, fl ad (I k) k) := by simp [ent, h]
theorem ent_I {cA : Nat → ClassId} {ad : Nat → Nat} {I : SI} {J : SJ} {X : SX} {k i : Nat} {v : Int32} : ∀ j, j ≠ k → ent cA ad (st2 I k i v) J X j = ent cA ad I J X j := fun j h => by simp only [ent, st2_k I v h]
theorem ent_J {cA : Nat → ClassId} {ad : Nat → Nat} {I : SI} {J : SJ} {X : SX} {k i : Nat} {v : Int64} : ∀ j, j ≠ k → ent cA ad I (st2 J k i v) X j = ent cA ad I J X j := fun j h => by simp only [ent, st2_k J v h]
theorem ent_X {cA : Nat → ClassId} {ad : Nat → Nat} {I : SI} {J : SJ} {X : SX} {k i : Nat} {v : UInt64} : ∀ j, j ≠ k → ent cA ad I J (st2 X k i v) j = ent cA ad I J X j := fun j h => by simp only [ent, st2_k X v h]
theorem upd_I {I : SI} {k i : Nat} {v : Int32} : upd (I k) i v = st2 I k i v k := funext fun j => by simp [upd, st2]
theorem upd_J {J : SJ} {k i : Nat} {v : Int64} : vp_updL (J k) i v = st2 J k i v k := funext fun j => by simp [vp_updL, st2]
theorem upd_X {X : SX} {k i : Nat} {v : UInt64} : vf_upd (X k) i v = st2 X k i v k := funext fun j => by simp [vf_upd, st2]
theorem wld_si {nW : Nat} {cA : Nat → ClassId} {ad : Nat → Nat} {I : SI} {J : SJ} {X : SX} {k i : Nat} {v : Int32} (h : kd k = 1) : (wld nW cA ad I J X).set k (ad k, .inl (cA 0, ln k, .inl (upd (I k) i v))) = wld nW cA ad (st2 I k i v) J X := wld_set (by rw [ent_i h, upd_I]) ent_I
theorem wld_sj {nW : Nat} {cA : Nat → ClassId} {ad : Nat → Nat} {I : SI} {J : SJ} {X : SX} {k i : Nat} {v : Int64} (h : kd k = 2) : (wld nW cA ad I J X).set k (ad k, .inl (cA 1, ln k, .inr (.inl (vp_updL (J k) i v)))) = wld nW cA ad I (st2 J k i v) X := wld_set (by rw [ent_j h, upd_J]) ent_J
theorem wld_sx {nW : Nat} {cA : Nat → ClassId} {ad : Nat → Nat} {I : SI} {J : SJ} {X : SX} {k i : Nat} {v : UInt64} (h : kd k = 3) : (wld nW cA ad I J X).set k (ad k, .inl (cA 2, ln k, .inr (.inr (.inr (.inl (vf_upd (X k) i v)))))) = wld nW cA ad I J (st2 X k i v) := wld_set (by rw [ent_x h, upd_X]) ent_X
theorem wld_so {nW : Nat} {cA : Nat → ClassId} {ad : Nat → Nat} {I : SI} {J : SJ} {X : SX} {k f : Nat} {v : Int32} (h : kd k = 0) (hf : (fl ad (I k) k).set f (.int v) = fl ad (st2 I k f v k) k) : (wld nW cA ad I J X).set k (ad k, .inr (ob k, (fl ad (I k) k).set f (.int v))) = wld nW cA ad (st2 I k f v) J X := wld_set (by rw [ent_o h, hf]) ent_I
theorem wld_sq {nW : Nat} {cA : Nat → ClassId} {ad : Nat → Nat} {I : SI} {J : SJ} {X : SX} {k f g : Nat} {v : Int32} (h : kd k = 0) (hf : (fl ad (I k) k).set f (.int v) = fl ad (st2 I k g v k) k) : (wld nW cA ad I J X).set k (ad k, .inr (ob k, (fl ad (I k) k).set f (.int v))) = wld nW cA ad (st2 I k g v) J X := wld_set (by rw [ent_o h, hf]) ent_I
/-- the addresses are apart -/
def inj (nW : Nat) (ad : Nat → Nat) : Prop := ∀ i j, i < nW → j < nW → ad i = ad j → i = j
/-- the world's own cells, and those to come -/
def fr (nW : Nat) (ad : Nat → Nat) (sz : Nat) : Nat → Prop := fun q => (∃ k, k < nW ∧ q = ad k) ∨ sz ≤ q
theorem wld_D {nW : Nat} {cA : Nat → ClassId} {ad : Nat → Nat} {I : SI} {J : SJ} {X : SX} {A : Nat → Prop} (hi : inj nW ad) (hA : ∀ k, k < nW → A (ad k)) : va_D A (wld nW cA ad I J X) := by
  refine ⟨fun i j p q h1 h2 h => ?_, fun k q h => ?_⟩
  · have l1 : i < nW := by have := (List.getElem?_eq_some_iff.mp h1).1; simpa [wld] using this
    have l2 : j < nW := by have := (List.getElem?_eq_some_iff.mp h2).1; simpa [wld] using this
    rw [wld_at l1] at h1
    rw [wld_at l2] at h2
    cases h1
    cases h2
    exact hi i j l1 l2 h
  · have l1 : k < nW := by have := (List.getElem?_eq_some_iff.mp h).1; simpa [wld] using this
    rw [wld_at l1] at h
    cases h
    exact hA k l1
theorem fr_ad {nW : Nat} {ad : Nat → Nat} {sz : Nat} : ∀ k, k < nW → fr nW ad sz (ad k) := fun k h => Or.inl ⟨k, h, rfl⟩
theorem fr_ge {nW : Nat} {ad : Nat → Nat} {sz : Nat} : ∀ q, sz ≤ q → fr nW ad sz q := fun q h => Or.inr h
theorem fr_mono {nW : Nat} {ad : Nat → Nat} {a b : Nat} (h : a ≤ b) : ∀ q, fr nW ad b q → fr nW ad a q := fun q z => z.elim Or.inl (fun w => Or.inr (Nat.le_trans h w))
abbrev WP (nW : Nat) (D : va_G) (cA : Nat → ClassId) (ad : Nat → Nat) (I : SI) (J : SJ) (X : SX) (H : Heap) : Prop := va_P D vwCl (wld nW cA ad I J X) H
abbrev WK (D : va_G) (cA : Nat → ClassId) (U : State) : Prop := va_K D vwCl (tysW cA) U
/-- a contract's start: the world, its size -/
def wPre (nW : Nat) (D : va_G) (cA : Nat → ClassId) (ad : Nat → Nat) (I : SI) (J : SJ) (X : SX) (sz : Nat) : State → Prop := fun U => U.heap.size = sz ∧ WP nW D cA ad I J X U.heap ∧ WK D cA U
def wPost (nW : Nat) (D : va_G) (cA : Nat → ClassId) (ad : Nat → Nat) (I : SI) (J : SJ) (X : SX) : Unit → State → Prop := fun _ t => WP nW D cA ad I J X t.heap ∧ WK D cA t
abbrev qI (nW : Nat) (D : va_G) (cA : Nat → ClassId) (ad : Nat → Nat) (sz : Nat) (r : Int32) (I : SI) (J : SJ) (X : SX) := va_Qi (fun (r' : Int32) (_ : Unit) => r' = r) (wPost nW D cA ad I J X) (fr nW ad sz)
abbrev qL (nW : Nat) (D : va_G) (cA : Nat → ClassId) (ad : Nat → Nat) (sz : Nat) (r : Int64) (I : SI) (J : SJ) (X : SX) := va_Ql (fun (r' : Int64) (_ : Unit) => r' = r) (wPost nW D cA ad I J X) (fr nW ad sz)
abbrev qD (nW : Nat) (D : va_G) (cA : Nat → ClassId) (ad : Nat → Nat) (sz : Nat) (r : UInt64) (I : SI) (J : SJ) (X : SX) := va_Qd (fun (r' : UInt64) (_ : Unit) => r' = r) (wPost nW D cA ad I J X) (fr nW ad sz)
abbrev qV (nW : Nat) (D : va_G) (cA : Nat → ClassId) (ad : Nat → Nat) (sz : Nat) (I : SI) (J : SJ) (X : SX) := va_Qv (fun (_ : Unit) => True) (wPost nW D cA ad I J X) (fr nW ad sz)
theorem wPre_blind {nW : Nat} {D : va_G} {cA : Nat → ClassId} {ad : Nat → Nat} {I : SI} {J : SJ} {X : SX} {sz : Nat} {As : List Value} : FrameBlind (va_Pc As (wPre nW D cA ad I J X sz)) := fun a U g mk q => ⟨q.1, q.2.1, q.2.2.1, va_K.moved (u := U) (U := U.calling g mk a) (Vm.Alike.refl U.vm) q.2.2.2⟩
theorem w_preS {nW : Nat} {s : State} {H : Heap} {D : va_G} {cA : Nat → ClassId} {ad : Nat → Nat} {I : SI} {J : SJ} {X : SX} {As : List Value} (hK : WK D cA s) (hP : WP nW D cA ad I J X H) : PreS s H (va_Pc As (wPre nW D cA ad I J X H.size)) As := ⟨wPre_blind, fun U hU hW => ⟨rfl, by rw [hU], by rw [hU]; exact hP, va_K.moved hW.alike hK⟩⟩
theorem w_preV {nW : Nat} {s : State} {H : Heap} {D : va_G} {cA : Nat → ClassId} {ad : Nat → Nat} {I : SI} {J : SJ} {X : SX} {As : List Value} (hK : WK D cA s) (hP : WP nW D cA ad I J X H) (k : Nat) (hkN : k < nW) {ci : Nat} {q : vw_C} (hk : kd k = 0 ∧ ob k = ci) (hq : vwCl[ci]? = some q) : PreV s H q.1 (ad k) (va_Pc (.ref (ad k) :: As) (wPre nW D cA ad I J X H.size)) As := ⟨wPre_blind, va_recv hK hP hq ((wld_at hkN).trans (by rw [ent_o hk.1, hk.2])), fun U hU hW => ⟨rfl, by rw [hU], by rw [hU]; exact hP, va_K.moved hW.alike hK⟩⟩
theorem ln_all : ∀ k, k < 116 → ln k ≤ 324 := by decide +kernel
theorem ln_small' (k : Nat) : ln k < 2 ^ 31 := by
  rcases Nat.lt_or_ge k 116 with q | q
  · exact Nat.lt_of_le_of_lt (ln_all k q) (by decide)
  · unfold ln; rw [List.getD_eq_getElem?_getD, List.getElem?_eq_none (by show lnL.length ≤ k; exact Nat.le_trans (by decide) q)]; exact (by decide : 0 < 2 ^ 31)
theorem ln_small {k i : Nat} (h : i < ln k) : i < 2 ^ 31 := Nat.lt_trans h (ln_small' k)
