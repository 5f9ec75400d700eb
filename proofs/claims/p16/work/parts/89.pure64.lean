/-! the law's arrays beside the world; what it tells; numbers -/
theorem va_P_l {D : va_G} {A B : va_W} {H : Heap} (h : va_P D vwCl (A ++ B) H) : va_P D vwCl A H := fun k q hk => h k q (by
  rw [List.getElem?_append_left ((List.getElem?_eq_some_iff.mp hk).1)]; exact hk)
theorem va_P_r {D : va_G} {A B : va_W} {H : Heap} (h : va_P D vwCl (A ++ B) H) : va_P D vwCl B H := fun k q hk => h (A.length + k) q (by
  rw [List.getElem?_append_right (by omega), Nat.add_sub_cancel_left]; exact hk)
theorem va_P_j {D : va_G} {A : va_W} {x : Nat × va_E} {H : Heap} (h : va_P D vwCl A H) (g : va_at D vwCl x H) : va_P D vwCl (A ++ [x]) H := h.app (fun k q hk => by
  have h0 : k < 1 := (List.getElem?_eq_some_iff.mp hk).1
  rw [show k = 0 by omega] at hk
  cases hk
  exact g)
theorem wld_len {nW : Nat} {cA : Nat → ClassId} {ad : Nat → Nat} {I : SI} {J : SJ} {X : SX} : (wld nW cA ad I J X).length = nW := by
  unfold wld
  rw [List.length_map, List.length_range]
/-- an array of 64 ints -/
def AT (cA : Nat → ClassId) (q : Nat) (f : Nat → Int32) (H : Heap) : Prop := H[q]? = some (vp_cell (cA 0) (64, .inl f))
theorem AT.lt {cA : Nat → ClassId} {q : Nat} {f : Nat → Int32} {H : Heap} (h : AT cA q f H) : q < H.size := (Array.getElem?_eq_some_iff.mp h).1
theorem AT.kept {cA : Nat → ClassId} {ad : Nat → Nat} {q : Nat} {f : Nat → Int32} {H H1 : Heap} (h : AT cA q f H) (hq : ∀ k, k < 102 → ad k ≠ q) (hk : ∀ x : Nat, x < H.size → ¬ fr 102 ad H.size x → H1[x]? = H[x]?) : AT cA q f H1 := by
  unfold AT
  rw [hk q h.lt (fun z => by
    rcases z with ⟨k, h1, h2⟩ | z
    · exact hq k h1 h2.symm
    · exact absurd h.lt (by omega))]
  exact h
theorem wld_cg {cA : Nat → ClassId} {ad : Nat → Nat} {I I' : SI} {J J' : SJ} {X X' : SX} (e : ∀ a, a < 102 → I' a = I a ∧ J' a = J a ∧ X' a = X a) : wld 102 cA ad I' J' X' = wld 102 cA ad I J X := by
  unfold wld
  refine List.map_congr_left (fun k hk => ?_)
  obtain ⟨e1, e2, e3⟩ := e k (List.mem_range.mp hk)
  unfold ent
  rw [e1, e2, e3]
theorem wPost_cg {D : va_G} {cA : Nat → ClassId} {ad : Nat → Nat} {I I' : SI} {J J' : SJ} {X X' : SX} (e : ∀ a, a < 102 → I' a = I a ∧ J' a = J a ∧ X' a = X a) : wPost 102 D cA ad I' J' X' = wPost 102 D cA ad I J X := by
  unfold wPost WP
  rw [wld_cg e]
/-- the line alone told anew -/
def tS (I I' : SI) : Prop := (∀ a, a ≠ 100 → a ≠ 101 → I' a = I a) ∧ sbOK I'
theorem tS.rf {I : SI} (h : sbOK I) : tS I I := ⟨fun _ _ _ => rfl, h⟩
def txV (I : SI) (r k pl : Nat) : Int32 := nI ((lineL r k (I (3 + r) k).toInt.toNat (I 7 k).toInt.toNat).getD pl 0)
theorem txV_cg {I I' : SI} (e : ∀ a, a ≠ 100 → a ≠ 101 → I' a = I a) {r k pl : Nat} (hr : r < 4) : txV I' r k pl = txV I r k pl := by
  unfold txV
  rw [e (3 + r) (by omega) (by omega), e 7 (by decide) (by decide)]
/-- what the law tells of a walk: of its nodes, of the texts, of the pushes -/
def tF (J : SJ) (v : Nat) : Nat → Nat → Int32
  | 0 => fun _ => 0
  | n + 1 => upd (upd (upd (tF J v n) n (J (35 + v) n).toInt32) (9 + n) (J (39 + v) n).toInt32) (18 + n) (J (47 + 9 * v + v) n).toInt32
def tG (I : SI) (J : SJ) (v : Nat) : Nat → Nat → Int32
  | 0 => tF J v 9
  | n + 1 => upd (tG I J v n) (27 + n) (txV I (n / 5) (n % 5) 6 + 200 * txV I (n / 5) (n % 5) 7)
def tA (I : SI) (J : SJ) (v : Nat) : Nat → Int32 := upd (tG I J v 20) 47 (pcS I 4)
theorem tG_cg {I I' : SI} {J : SJ} {v : Nat} (e : ∀ a, a ≠ 100 → a ≠ 101 → I' a = I a) : ∀ n, n ≤ 20 → tG I' J v n = tG I J v n
  | 0, _ => rfl
  | n + 1, h => by unfold tG; rw [tG_cg e n (by omega), txV_cg e (by omega), txV_cg e (by omega)]
theorem tA_cg {I I' : SI} {J : SJ} {v : Nat} (e : ∀ a, a ≠ 100 → a ≠ 101 → I' a = I a) : tA I' J v = tA I J v := by
  unfold tA
  rw [tG_cg e 20 (Nat.le_refl _), pcS_cg (fun w hw => by rw [e (31 + w) (by omega) (by omega)]) 4 (Nat.le_refl _)]
/-- the tell's end: a new array -/
abbrev qT (D : va_G) (cA : Nat → ClassId) (ad : Nat → Nat) (sz : Nat) (I : SI) (J : SJ) (X : SX) (v : Nat) := va_Qr (fun (_ : Unit) => True) (fun (_ : Unit) (a : Nat) (t : State) => sz ≤ a ∧ (∀ k, k < 102 → ad k ≠ a) ∧ AT cA a (tA I J v) t.heap ∧ ∃ I' : SI, tS I I' ∧ WP 102 D cA ad I' J X t.heap ∧ WK D cA t) (fr 102 ad sz)
section TROWS
variable {p : Program} {l : Launch} {e : Env} {R : Room} {s : State} {m : MethodId} {args : Array Value} {below : List Frame} {meth : Method} {c : Code} {H : Heap} {locs : List Loc} {cells slots : Nat} {Q : State → Prop}
variable {cc : ByteArray} {pc : Nat} {ls : Array Slot} {rest : List Value} {D : va_G} {cA : Nat → ClassId} {ad : Nat → Nat} {I : SI} {J : SJ} {X : SX} {A : Nat → Prop} {H0 : Heap}
/-- calls that leave an array -/
theorem t_calli {st0 : List Value} {a : Array Value} {r : Int32} {I1 : SI} {J1 : SJ} {X1 : SX} {mc ms : Nat} {q : Nat} {f : Nat → Int32} (hr : va_Run p l e R s m args below meth c H locs cells slots mc ms (F0 m pc ls st0) rest (qI 102 D cA ad H.size r I1 J1 X1 a) (fr 102 ad H.size)) (hT : AT cA q f H) (hq : ∀ k, k < 102 → ad k ≠ q) (hS : va_S (fr 102 ad H0.size) H0 H locs)
    (kk : ∀ (H1 : Heap) (locs1 : List Loc), WP 102 D cA ad I1 J1 X1 H1 → AT cA q f H1 → va_S (fr 102 ad H0.size) H0 H1 locs1 → W p l e R s m args below meth c H1 locs1 (cells + mc) (slots + ms) Q (F0 m (pc + 3) ls (.int r :: rest))) : W p l e R s m args below meth c H locs cells slots Q (F0 m pc ls st0) :=
  va_calli hr hS (fun q _ h => fr_mono hS.1 q h) (fr_mono hS.1) (fun r' u t H1 locs1 ht hvm hp hB hz hk hS1 => by subst hp; subst ht; exact kk _ _ hB.1 (hT.kept hq hk) hS1)
theorem t_callr {st0 : List Value} {a : Array Value} {v mc ms : Nat} (hr : va_Run p l e R s m args below meth c H locs cells slots mc ms (F0 m pc ls st0) rest (qT D cA ad H.size I J X v a) (fr 102 ad H.size)) (hS : va_S (fr 102 ad H0.size) H0 H locs)
    (kk : ∀ (q9 : Nat) (I' : SI) (H1 : Heap) (locs1 : List Loc), tS I I' → WP 102 D cA ad I' J X H1 → AT cA q9 (tA I J v) H1 → (∀ k, k < 102 → ad k ≠ q9) → (∀ (q : Nat) (f : Nat → Int32), AT cA q f H → (∀ k, k < 102 → ad k ≠ q) → AT cA q f H1) → va_S (fr 102 ad H0.size) H0 H1 locs1 → W p l e R s m args below meth c H1 locs1 (cells + mc) (slots + ms) Q (F0 m (pc + 3) ls (.ref q9 :: rest))) : W p l e R s m args below meth c H locs cells slots Q (F0 m pc ls st0) :=
  va_callr hr hS (fun q _ h => fr_mono hS.1 q h) (fr_mono hS.1) (fun u ra t H1 locs1 ht hvm hp hB hz hk hS1 => by
    obtain ⟨h1, h2, h3, I', h4, h5, -⟩ := hB
    subst ht
    exact kk _ _ _ _ h4 h5 h3 h2 (fun q f hT hq => hT.kept hq hk) hS1)
/-- the array is made -/
theorem t_newa (hexec : p.tables.exec = Jvm.exec) (hb : c.code = cc) (harr : (Cond.arrayClass .int).before args s = true) (hK : WK D cA s) (hP : WP 102 D cA ad I J X H) (hi : inj 102 ad) (hA : ∀ k, k < 102 → A (ad k)) (hS : va_S A H0 H locs) (hA2 : ∀ q, H0.size ≤ q → A q) {n : Int32} (hn : n = 64) (hcells : cells + 1 ≤ R.cells) (hslots : slots + 64 ≤ R.slots) (hdg : decode cc pc = .ok (.newarray .int, 2))
    (kk : ∀ (q : Nat) (H1 : Heap), H0.size ≤ q → (∀ k, k < 102 → ad k ≠ q) → WP 102 D cA ad I J X H1 → AT cA q (fun _ => 0) H1 → va_S A H0 H1 locs → W p l e R s m args below meth c H1 locs (cells + 1) (slots + 64) Q (F0 m (pc + 2) ls (.ref q :: rest))) : W p l e R s m args below meth c H locs cells slots Q (F0 m pc ls (.int n :: rest)) := by
  subst hn
  refine n_newa hexec hb (atype := .int) (ty := .int) (cy := cA 0) harr rfl hK 0 rfl (fun z => z) hP (wld_D hi hA) hS hA2 (h := H.size) rfl (N' := 64) (a0 := (64, .inl (fun _ => 0))) rfl (by decide) rfl (by decide) hcells hslots hdg (fun H1 hz hP1 hD1 hS1 => ?_)
  exact kk H.size H1 hS.1 (fun k hk => Nat.ne_of_lt (wp_lt hP hk)) (va_P_l hP1) (va_P_r hP1 0 _ rfl) hS1
/-- an int is put into the array -/
theorem t_iast (hexec : p.tables.exec = Jvm.exec) (hb : c.code = cc) (hK : WK D cA s) (hP : WP 102 D cA ad I J X H) (hi : inj 102 ad) (hA : ∀ k, k < 102 → A (ad k)) (hS : va_S A H0 H locs) {q : Nat} {f : Nat → Int32} (hT : AT cA q f H) (hq : ∀ k, k < 102 → ad k ≠ q) (hAq : A q) {i : Nat} (hi64 : i < 64) {x v : Int32} (hx : x = nI i) (hdg : decode cc pc = .ok (.iastore, 1))
    (kk : ∀ (H1 : Heap) (locs1 : List Loc), WP 102 D cA ad I J X H1 → AT cA q (upd f i v) H1 → va_S A H0 H1 locs1 → W p l e R s m args below meth c H1 locs1 cells slots Q (F0 m (pc + 1) ls rest)) : W p l e R s m args below meth c H locs cells slots Q (F0 m pc ls (.int v :: .int x :: .ref q :: rest)) := by
  subst hx
  have hD0 := wld_D (cA := cA) (I := I) (J := J) (X := X) hi hA
  have hPj : va_P D vwCl (wld 102 cA ad I J X ++ [(q, .inl (cA 0, 64, .inl f))]) H := va_P_j hP hT
  have hDj : va_D A (wld 102 cA ad I J X ++ [(q, .inl (cA 0, 64, .inl f))]) := by
    have key : ∀ (k : Nat) (y : Nat × va_E), (wld 102 cA ad I J X ++ [(q, .inl (cA 0, 64, .inl f))])[k]? = some y → (k < 102 ∧ (wld 102 cA ad I J X)[k]? = some y ∧ y.1 = ad k) ∨ (k = 102 ∧ y.1 = q) := fun k y hy => by
      by_cases hl : k < 102
      · rw [List.getElem?_append_left (by rw [wld_len]; exact hl)] at hy
        refine Or.inl ⟨hl, hy, ?_⟩
        rw [wld_at hl] at hy
        cases hy
        rfl
      · rw [List.getElem?_append_right (by rw [wld_len]; omega), wld_len] at hy
        have h1 : k - 102 < 1 := (List.getElem?_eq_some_iff.mp hy).1
        rw [show k - 102 = 0 by omega] at hy
        cases hy
        exact Or.inr ⟨by omega, rfl⟩
    refine ⟨fun a b y z hy hz he => ?_, fun k y hy => ?_⟩
    · rcases key a y hy with ⟨a1, a2, a3⟩ | ⟨a1, a2⟩ <;> rcases key b z hz with ⟨b1, b2, b3⟩ | ⟨b1, b2⟩
      · exact hD0.1 a b y z a2 b2 he
      · exact absurd (a3.symm.trans (he.trans b2)) (hq a a1)
      · exact absurd (b3.symm.trans (he.symm.trans a2)) (hq b b1)
      · omega
    · rcases key k y hy with ⟨a1, a2, a3⟩ | ⟨a1, a2⟩
      · exact hD0.2 k y a2
      · rw [a2]; exact hAq
  refine va_iast hexec hb hK hPj hDj hS 102 0 (n := 64) (f := f) (by rw [List.getElem?_append_right (by rw [wld_len]; exact Nat.le_refl _), wld_len]; rfl) rfl (vp_in_nI hi64 (by decide)) hdg (fun H1 locs1 h1 _ h3 => ?_)
  have e : (wld 102 cA ad I J X ++ ([(q, .inl (cA 0, 64, .inl f))] : va_W)).set 102 ((q, .inl (cA 0, 64, .inl (upd f (nI i).toNatClampNeg v))) : Nat × va_E) = wld 102 cA ad I J X ++ ([(q, .inl (cA 0, 64, .inl (upd f i v)))] : va_W) := by
    rw [List.set_append_right 102 _ (by rw [wld_len]; exact Nat.le_refl _), wld_len, nI_clamp (by omega)]
    rfl
  rw [e] at h1
  exact kk H1 locs1 (va_P_l h1) (va_P_r h1 0 _ rfl) h3
theorem t_iald (hexec : p.tables.exec = Jvm.exec) (hb : c.code = cc) (hK : WK D cA s) {q : Nat} {f : Nat → Int32} (hT : AT cA q f H) {i : Nat} (hi64 : i < 64) {x : Int32} (hx : x = nI i) (hdg : decode cc pc = .ok (.iaload, 1))
    (kk : W p l e R s m args below meth c H locs cells slots Q (F0 m (pc + 1) ls (.int (f i) :: rest))) : W p l e R s m args below meth c H locs cells slots Q (F0 m pc ls (.int x :: .ref q :: rest)) := by
  subst hx
  have hP : va_P D vwCl [(q, .inl (cA 0, 64, .inl f))] H := fun k y hk => by
    have h0 : k < 1 := (List.getElem?_eq_some_iff.mp hk).1
    rw [show k = 0 by omega] at hk
    cases hk
    exact hT
  refine va_iald hexec hb hK hP 0 0 rfl rfl (vp_in_nI hi64 (by decide)) hdg ?_
  rw [nI_clamp (by omega)]
  exact kk
end TROWS
/-! numbers -/
def lowN (v : Int32) (n : Nat) : Nat := (v &&& 2147483647).toBitVec.toNat % n
theorem lowN_lt {v : Int32} {n : Nat} (h : 0 < n) : lowN v n < n := Nat.mod_lt _ h
theorem and31 (v : Int32) : ∃ z, z < 2147483648 ∧ v &&& 2147483647 = nI z ∧ z = (v &&& 2147483647).toBitVec.toNat := by
  refine ⟨_, ?_, ?_, rfl⟩
  · have e : (v &&& 2147483647).toBitVec = v.toBitVec &&& 2147483647#32 := rfl
    rw [e, BitVec.toNat_and]
    exact Nat.lt_of_le_of_lt Nat.and_le_right (by decide)
  · apply Int32.toBitVec_inj.mp
    show _ = (Int32.ofNat _).toBitVec
    rw [Int32.toBitVec_ofNat']
    simp
theorem nI_quo {a n : Nat} (ha : a < 2147483648) (hn : 0 < n) (hn2 : n < 2147483648) : nI a / nI n = nI (a / n) := by
  apply Int32.toInt_inj.mp
  have h0 := Nat.div_le_self a n
  rw [nI_toInt (n := a / n) (by omega), Int32.toInt_div, nI_toInt ha, nI_toInt hn2, Int.tdiv_eq_ediv_of_nonneg (by omega), Int.bmod_def]
  have e : ((a : Int) / (n : Int)) = ((a / n : Nat) : Int) := (Int.natCast_ediv a n).symm
  rw [e]
  generalize a / n = k at h0 ⊢
  split <;> omega
theorem nI_rem {a n : Nat} (ha : a < 2147483648) (hn : 0 < n) (hn2 : n < 2147483648) : nI a - nI a / nI n * nI n = nI (a % n) := by
  rw [nI_quo ha hn hn2]
  have h1 : nI (a / n) * nI n = nI (a / n * n) := pk_mul _ _
  have h2 := Nat.div_add_mod a n
  rw [Nat.mul_comm] at h2
  have h3 : nI a = nI (a / n * n) + nI (a % n) := by rw [nI_add, h2]
  rw [h1]
  conv => lhs; rw [h3]
  grind
theorem low_eq {v : Int32} {n : Nat} (h : 0 < n ∧ n < 2147483648) : (v &&& 2147483647) - (v &&& 2147483647) / nI n * nI n = nI (lowN v n) := by
  obtain ⟨z, h1, h2, h3⟩ := and31 v
  unfold lowN
  rw [← h3, h2]
  exact nI_rem h1 h.1 h.2
theorem nI_nz {n : Nat} (h : 0 < n ∧ n < 2147483648) : ¬ nI n = 0 := fun z => by
  have := congrArg Int32.toInt z
  rw [nI_toInt h.2, Int32.toInt_zero] at this
  omega
/-- a script's cell, or what stands for it behind the script's end -/
def cellV (L : Nat) (xs : Nat → Int32) (k : Nat) : Int32 := if k < L then xs k else 2753881 * nI k + 12503
theorem start3 : Inv3 0 (RS 4).1 (RS 4).2 X0 ∧ (∀ a, a < 102 → (RS 4).1 a = CS.1 a ∧ (RS 4).2 a = CS.2 a) ∧ (RS 4).1 0 6 = 1000 := by
  obtain ⟨h1, h2, hM, -, -, h3⟩ := start_all
  have hR : RelN I0 CS.1 := ⟨fun r b hr hb => by rw [cs_I 103 _ (by omega), i0_z (by omega), i0_z (by omega)], fun b hb => by rw [cs_I 104 _ (by omega), i0_z (by omega), i0_z (by omega)]⟩
  have hdb : dbOK CS.1 := by
    unfold dbOK
    rw [cs_I 102 2 (by omega), cs_I 102 3 (by omega)]
    exact db0
  obtain ⟨hT, -⟩ := begins_dr (J2 := CS.2) w990 hR hdb
  have tJ : ∀ a, a < 105 → (RS 4).2 a = CS.2 a := fun a ha => by
    have h := (sqR_far hT 4 (Nat.le_refl _) a ha).trans (begM_far ha)
    unfold RS
    exact h
  have e06 : (RS 4).1 0 6 = 1000 := by rw [h3 0 6 (by omega), h1 0 6 (by omega)]; rfl
  obtain ⟨m1, m2, m3⟩ := begin_cons hM 4 (Nat.le_refl _)
  have eC : CS.2 = (sqB I0 10000000 I0 J0 4).2 := by unfold CS; rfl
  try dsimp only at m1 m2
  rw [← eC] at m1 m2
  have e0 : (sqB I0 10000000 I0 J0 0).1 = I0 := rfl
  rw [e0] at m2
  refine ⟨⟨start_ok2, Cons_cg (fun a q => tJ a (by omega)) (fun v k hv hk => m1 v k hv hk), ?_⟩, fun a ha => ⟨funext fun y => h3 a y (by omega), tJ a (by omega)⟩, e06⟩
  rw [e06]
  exact Sett_cg (fun a q => tJ a (by omega)) (fun v hv => m2 v hv)
