/-! what is told fits an int; what holds between two calls of this law -/
theorem drS_25 : ∀ j, j < 26 → (drS j).1 ≤ 30000000 ∧ (drS j).2 ≤ 17000000 := by decide +kernel
theorem ss_small {j : Nat} {I : SI} {J : SJ} {X : SX} (h : Inv2 j I J X) (hj : j < 26) {v : Nat} (hv : v < 4) : ssN J v ≤ 500000000 := by
  obtain ⟨⟨-, -, -, -, -, -, hdb, -, -, -, hDr, -, -⟩, -⟩ := h
  obtain ⟨d1, d2, d3⟩ := hDr v hv
  obtain ⟨q1, q2⟩ := drS_25 j hj
  have hb : (I 102 3).toInt.toNat ≤ 100000 := by have := hdb.2.2.2; omega
  have := am_le hv hdb.1 hdb.2.1 d1 d2 d3
  omega
theorem s_small {j : Nat} {I : SI} {J : SJ} {X : SX} (h : Inv2 j I J X) (hj : j < 26) {v n o : Nat} (hv : v < 4) (hn : n < 9) (ho : o < 9) : (J (47 + 9 * v + n) o).toInt.natAbs ≤ 500000000 := by
  have h1 := ss_small h hj hv
  have h2 := suN_at (f := seN J v) 9 n hn
  have h3 : (J 107 (81 * v + 9 * n + o)).toInt.natAbs ≤ seN J v n := suN_at (f := fun o => (J 107 (81 * v + 9 * n + o)).toInt.natAbs) 9 o ho
  rw [(h.1.2.2.2.2.2.2.2.2.1 v hv n hn).2.2 o ho]
  unfold ssN at h1
  omega
theorem sL_bd {f : Nat → Int64} : ∀ m, suN (fun p => (f p).toInt.natAbs) m ≤ 1000000000000 → (sL f m).toInt.natAbs ≤ suN (fun p => (f p).toInt.natAbs) m
  | 0, _ => by show (0 : Int64).toInt.natAbs ≤ 0; decide
  | m + 1, h => by
    have e : suN (fun p => (f p).toInt.natAbs) (m + 1) = (f m).toInt.natAbs + suN (fun p => (f p).toInt.natAbs) m := rfl
    rw [e] at h ⊢
    have ih := sL_bd (f := f) m (by omega)
    unfold sL
    have e2 : (sL f m + f m).toInt = (sL f m).toInt + (f m).toInt := by
      rw [Int64.toInt_add, Int.bmod_def]
      omega
    rw [e2]
    omega
theorem so_small {j : Nat} {I : SI} {J : SJ} {X : SX} (h : Inv2 j I J X) (hj : j < 26) {v k : Nat} (hv : v < 4) (hk : k < 9) : (soJ J v k).toInt.natAbs ≤ 500000000 := by
  have h1 := ss_small h hj hv
  have h2 := suN_at (f := seN J v) 9 k hk
  have e : suN (fun o => (J (47 + 9 * v + k) o).toInt.natAbs) 9 = seN J v k := suN_congr 9 (fun o ho => by rw [(h.1.2.2.2.2.2.2.2.2.1 v hv k hk).2.2 o ho])
  have h3 := sL_bd (f := fun o => J (47 + 9 * v + k) o) 9 (by rw [e]; unfold ssN at h1; omega)
  rw [e] at h3
  unfold ssN at h1
  unfold soJ
  omega
theorem si_small {j : Nat} {I : SI} {J : SJ} {X : SX} (h : Inv2 j I J X) (hj : j < 26) {v k : Nat} (hv : v < 4) (hk : k < 9) : (siJ J v k).toInt.natAbs ≤ 500000000 := by
  have h1 := ss_small h hj hv
  have e : suN (fun n => (J (47 + 9 * v + n) k).toInt.natAbs) 9 ≤ ssN J v := by
    unfold ssN
    refine suN_le 9 (fun n hn => ?_)
    rw [(h.1.2.2.2.2.2.2.2.2.1 v hv n hn).2.2 k hk]
    exact suN_at (f := fun o => (J 107 (81 * v + 9 * n + o)).toInt.natAbs) 9 k hk
  have h3 := sL_bd (f := fun n => J (47 + 9 * v + n) k) 9 (by omega)
  unfold siJ
  omega
theorem lowF_no {J : SJ} {v : Nat} {bd : Int32} : ∀ t j, j + t ≤ 9 → lowF J v bd t j = -1 → ∀ i, j ≤ i → i < j + t → unB J v i bd = false
  | 0, j, _, _, i, h1, h2 => absurd h2 (by omega)
  | t + 1, j, hj, h, i, h1, h2 => by
    unfold lowF at h
    by_cases q : unB J v j bd = true
    · rw [if_pos q] at h; exact absurd h (nI_nm1 (by omega))
    · rw [if_neg q] at h
      by_cases e : i = j
      · rw [e]; exact Bool.eq_false_iff.mpr q
      · exact lowF_no t (j + 1) (by omega) h i (by omega) (by omega)
theorem rest_lt {J : SJ} {bd : Int32} (h : Sett J bd) (hb : 100 ≤ bd.toInt ∧ bd.toInt ≤ 100000) {v k : Nat} (hv : v < 4) (hk : k < 9) : -bd.toInt < (J (39 + v) k).toInt ∧ (J (39 + v) k).toInt < bd.toInt := by
  have h1 := lowF_no 9 0 (Nat.le_refl _) (h v hv) k (Nat.zero_le _) (by omega)
  unfold unB at h1
  rw [Bool.or_eq_false_iff, decide_eq_false_iff_not, decide_eq_false_iff_not, Int64.le_iff_toInt_le, Int64.le_iff_toInt_le, Int32.toInt_toInt64, Int32.toInt_toInt64] at h1
  have e : (-bd).toInt = -bd.toInt := by
    rw [Int32.toInt_neg, Int.bmod_def]
    omega
  rw [e] at h1
  omega
/-- all that holds between two calls -/
def Inv3 (j : Nat) (I : SI) (J : SJ) (X : SX) : Prop := Inv2 j I J X ∧ Cons J ∧ Sett J (I 0 6)
theorem Inv3.bd {j : Nat} {I : SI} {J : SJ} {X : SX} (h : Inv3 j I J X) : 100 ≤ (I 0 6).toInt ∧ (I 0 6).toInt ≤ 100000 := by
  rw [h.1.1.2.2.2.2.2.1]
  exact ⟨h.1.1.2.2.2.2.2.2.1.2.2.1, h.1.1.2.2.2.2.2.2.1.2.2.2⟩
theorem l_small {j : Nat} {I : SI} {J : SJ} {X : SX} (h : Inv3 j I J X) (hj : j < 26) {v k : Nat} (hv : v < 4) (hk : k < 9) : (J (35 + v) k).toInt.natAbs ≤ 1100000000 := by
  have h1 := so_small h.1 hj hv hk
  have h2 := si_small h.1 hj hv hk
  have h3 := rest_lt h.2.2 h.bd hv hk
  have h4 := h.bd
  have h5 := h.2.1 v k hv hk
  unfold K9 at h5
  have e : J (35 + v) k = (if k = v then 1000000 else 0) - J (39 + v) k - soJ J v k + siJ J v k := by rw [← h5]; grind
  have e1 : ((if k = v then 1000000 else 0 : Int64)).toInt = 1000000 ∨ ((if k = v then 1000000 else 0 : Int64)).toInt = 0 := by
    split
    · exact Or.inl rfl
    · exact Or.inr rfl
  generalize ((if k = v then 1000000 else 0 : Int64)) = z at e e1
  generalize soJ J v k = a at *
  generalize siJ J v k = b at *
  generalize J (39 + v) k = r at *
  have e2 : (z - r - a + b).toInt = z.toInt - r.toInt - a.toInt + b.toInt := by
    have q1 : (z - r).toInt = z.toInt - r.toInt := by rw [Int64.toInt_sub, Int.bmod_def]; omega
    have q2 : (z - r - a).toInt = z.toInt - r.toInt - a.toInt := by rw [Int64.toInt_sub, q1, Int.bmod_def]; omega
    rw [Int64.toInt_add, q2, Int.bmod_def]; omega
  rw [e, e2]
  omega
theorem sm64 {x : Int64} (h : x.toInt.natAbs < 2147483648) : x.toInt32.toInt64 = x := by
  apply Int64.toInt_inj.mp
  rw [Int32.toInt_toInt64, Int64.toInt_toInt32, Int.bmod_def]
  omega
theorem sm32 {x : Int64} (h : x.toInt.natAbs < 2147483648) : x.toInt32.toInt = x.toInt := by
  rw [Int64.toInt_toInt32, Int.bmod_def]
  omega
theorem K9_cg {J J' : SJ} (e : ∀ a, a < 83 → J' a = J a) {v k : Nat} (hv : v < 4) (hk : k < 9) : K9 J' v k = K9 J v k := by
  unfold K9 soJ siJ
  rw [e _ (by omega), e _ (by omega), e _ (by omega), sL_congr (f := fun n => J' (47 + 9 * v + n) k) (g := fun n => J (47 + 9 * v + n) k) 9 (fun n hn => by rw [e (47 + 9 * v + n) (by omega)])]
theorem Cons_cg {J J' : SJ} (e : ∀ a, a < 83 → J' a = J a) (h : Cons J) : Cons J' := fun v k hv hk => (K9_cg e hv hk).trans (h v k hv hk)
theorem low_cg {J J' : SJ} {v : Nat} {bd : Int32} (e : J' (39 + v) = J (39 + v)) : ∀ t j, lowF J' v bd t j = lowF J v bd t j
  | 0, _ => rfl
  | t + 1, j => by unfold lowF unB; rw [e, low_cg e t (j + 1)]
theorem Sett_cg {J J' : SJ} {bd : Int32} (e : ∀ a, a < 83 → J' a = J a) (h : Sett J bd) : Sett J' bd := fun v hv => (low_cg (e _ (by omega)) 9 0).trans (h v hv)
/-- the line told anew -/
theorem Inv3.line {j : Nat} {I I' : SI} {J : SJ} {X : SX} (h : Inv3 j I J X) (e : ∀ a, a ≠ 100 → a ≠ 101 → I' a = I a) (eS : sbOK I') : Inv3 j I' J X := by
  refine ⟨Inv2_cg h.1 (fun a b _ _ q => by rw [e a (by omega) (by omega)]) eS (fun _ _ => rfl) h.1.x, h.2.1, ?_⟩
  rw [e 0 (by decide) (by decide)]
  exact h.2.2
/-- a mending call: what the class's contract asks for; a reference's cells thought beside it; all holds again -/
theorem mend3 {j : Nat} {I : SI} {J : SJ} {X : SX} (h : Inv3 j I J X) (hj : j < 513) {C : SI} (c1 : ∀ a, a < 3 ∨ 8 ≤ a → C a = I a) (hW : W99 C) (hB : B3 C) :
    ∃ (I9 : SI) (J9 : SJ), (∀ a, a < 102 → I9 a = (MCw C J 4).1 a ∧ J9 a = (MCw C J 4).2 a) ∧ MendOK (cnF C) (nbF C) (fun w => (MCw C J w).1) (fun w => (MCw C J w).2) ∧ Inv3 (j + 1) I9 J9 X ∧ I9 0 6 = I 0 6 := by
  obtain ⟨G, eG⟩ : ∃ G : SI, G = fun a => if a = 103 then fun q => C (3 + q / 5) (q % 5) else if a = 104 then C 7 else if a = 102 then fun y => if y = 14 then 0 else (MCw C J 4).1 102 y else (MCw C J 4).1 a := ⟨_, rfl⟩
  have g1 : ∀ a, a ≠ 102 → a ≠ 103 → a ≠ 104 → G a = (MCw C J 4).1 a := fun a q1 q2 q3 => by rw [eG]; dsimp only; rw [if_neg q2, if_neg q3, if_neg q1]
  have g2 : ∀ y, y ≠ 14 → G 102 y = (MCw C J 4).1 102 y := fun y q => by rw [eG]; dsimp only; rw [if_neg (by decide), if_neg (by decide), if_pos rfl, if_neg q]
  have g14 : G 102 14 = 0 := by rw [eG]; dsimp only; rw [if_neg (by decide), if_neg (by decide), if_pos rfl, if_pos rfl]
  have hR : RelN C G := ⟨fun r b hr hb => by
    rw [eG]
    dsimp only
    rw [if_pos rfl, show (5 * r + b) / 5 = r from by omega, show (5 * r + b) % 5 = b from by omega], fun b hb => by
    rw [eG]
    dsimp only
    rw [if_neg (by decide), if_pos rfl]⟩
  clear eG
  obtain ⟨mk, -, iv, -, -, ef⟩ := mend_pack h.1 hj c1 hW hB hR g1 g2 g14 (J2 := (MCw C J 4).2) (fun _ _ => rfl)
  have hk := call_mend2 (C := C) (I2 := G) (J2 := (MCw C J 4).2) h.1.1 hj c1 hW (by unfold MCw at g1; exact g1) (by unfold MCw at g2; exact g2) hR (fun _ _ => by unfold MCw; rfl)
  have tJ : ∀ a, a < 105 → (MRw C G (MCw C J 4).2 4).2 a = (MCw C J 4).2 a := fun a ha => by
    have hdb2 : dbOK G := by
      unfold dbOK
      rw [g2 2 (by decide), g2 3 (by decide), (relN_mid h.1 hj c1 hW).2 102 (by decide)]
      exact h.1.1.2.2.2.2.2.2.1
    obtain ⟨hT, -⟩ := mends_dr (J2 := (MCw C J 4).2) hW hR hdb2 hj (DrA_of (by rw [g2 2 (by decide), (relN_mid h.1 hj c1 hW).2 102 (by decide)]) (by rw [g2 3 (by decide), (relN_mid h.1 hj c1 hW).2 102 (by decide)]) (fun a q1 q2 => by unfold MCw; exact (sqC_frI h.1.1 hj c1 hW).2 a (by omega)) h.1.1.2.2.2.2.2.2.2.2.2.2.1)
    unfold MRw
    exact (sqR_far hT 4 (Nat.le_refl _) a ha).trans (mdA_far 4 (Nat.le_refl _) a ha)
  clear hk
  obtain ⟨m1, m2, m3⟩ := mend_cons mk (by rw [MCw_0]; exact h.2.1) 4 (Nat.le_refl _)
  have e06 : (MRw C G (MCw C J 4).2 4).1 0 6 = I 0 6 := by
    rw [ef 0 6 (by omega), g1 0 (by decide) (by decide) (by decide), m3 0 6 (by omega), MCw_0]
    show tellI C 0 6 = _
    rw [tellI_f (by omega), c1 0 (by omega)]
  refine ⟨_, _, fun a ha => ⟨funext fun y => ?_, tJ a (by omega)⟩, mk, ⟨iv, Cons_cg (fun a q => tJ a (by omega)) m1, ?_⟩, e06⟩
  · rw [ef a y (by omega), g1 a (by omega) (by omega) (by omega)]
  · rw [e06]
    refine Sett_cg (fun a q => tJ a (by omega)) (fun v hv => ?_)
    have := m2 v hv
    rw [MCw_0] at this
    have e : (tellI C, J).1 0 6 = I 0 6 := by
      show tellI C 0 6 = _
      rw [tellI_f (by omega), c1 0 (by omega)]
    rw [e] at this
    exact this
/-- a beginning call -/
theorem begin3 {j : Nat} {I : SI} {J : SJ} {X : SX} (h : Inv3 j I J X) {p0 p1 : Int32} (h0 : 50 ≤ p0.toInt ∧ p0.toInt ≤ 90) (h2 : 100 ≤ p1.toInt ∧ p1.toInt ≤ 100000) {C : SI} (eC : C = st2 (st2 I 0 5 p0) 0 6 p1) :
    ∃ (I9 : SI) (J9 : SJ), (∀ a, a < 102 → I9 a = (sqB I 10000000 C J 4).1 a ∧ J9 a = (sqB I 10000000 C J 4).2 a) ∧ BeginOK (cnF I) (nbF I) (fun w => (sqB I 10000000 C J w).1) (fun w => (sqB I 10000000 C J w).2) ∧ Inv3 0 I9 J9 X ∧ I9 0 6 = p1 := by
  obtain ⟨hRI, hW, hFI, hOI, hdI, hbI, hdb, hrd, hJ, hpc, hDr, hX, hsb⟩ := id h.1.1
  have c1 : ∀ a, a ≠ 0 → C a = I a := fun a q => by rw [eC, st2_k _ _ q, st2_k _ _ q]
  have cd : C 0 5 = p0 := by rw [eC, st2_n _ _ (by omega), st2_s]
  have cb : C 0 6 = p1 := by rw [eC, st2_s]
  have hFC : NetFull I C := full_cg (fun _ _ _ => rfl) (fun a q1 q2 => c1 a (by omega)) hFI
  have hdb3 : dbOK (st2 (st2 I 102 2 p0) 102 3 p1) := by
    unfold dbOK
    rw [st2_n _ _ (by omega), st2_s, st2_s]
    exact ⟨h0.1, h0.2, h2.1, h2.2⟩
  have hR3 : RelN I (st2 (st2 I 102 2 p0) 102 3 p1) := ⟨fun r b hr hb => by rw [st2_n _ _ (by omega), st2_n _ _ (by omega)]; exact hRI.1 r b hr hb, fun b hb => by rw [st2_n _ _ (by omega), st2_n _ _ (by omega)]; exact hRI.2 b hb⟩
  obtain ⟨f1, f2⟩ := sqB_frI (J1 := J) hW hFC hR3 (by rw [cd, st2_n _ _ (by omega), st2_s]) (by rw [cb, st2_s]) hdb3
  obtain ⟨S, eS⟩ : ∃ S : SI × SJ, S = sqB I 10000000 C J 4 := ⟨_, rfl⟩
  rw [← eS] at f1 f2
  obtain ⟨G, eG2⟩ : ∃ G : SI, G = st2 (st2 (st2 S.1 102 14 0) 102 2 p0) 102 3 p1 := ⟨_, rfl⟩
  have g2 : G 102 2 = p0 := by rw [eG2, st2_n _ _ (by omega), st2_s]
  have g3 : G 102 3 = p1 := by rw [eG2, st2_s]
  have hdbG : dbOK G := by
    unfold dbOK
    rw [g2, g3]
    exact ⟨h0.1, h0.2, h2.1, h2.2⟩
  have hRG : RelN I G := ⟨fun r b hr hb => by
    rw [eG2, st2_n _ _ (by omega), st2_n _ _ (by omega), st2_n _ _ (by omega), f1 103 _ (by omega), c1 103 (by decide)]
    exact hRI.1 r b hr hb, fun b hb => by
    rw [eG2, st2_n _ _ (by omega), st2_n _ _ (by omega), st2_n _ _ (by omega), f1 104 _ (by omega), c1 104 (by decide)]
    exact hRI.2 b hb⟩
  have hk := call_begin h.1.1 c1 (I2 := G) (fun a q => by rw [← eS, eG2, st2_k _ _ q, st2_k _ _ q, st2_k _ _ q]) (by rw [← eS, eG2, st2_n _ _ (by omega), st2_n _ _ (by omega), st2_n _ _ (by omega)]) (by rw [cd, g2]) (by rw [cb, g3]) hdbG
  rw [← eS] at hk
  obtain ⟨mk, -, iv, ef⟩ := hk
  obtain ⟨hT, -⟩ := begins_dr (J2 := S.2) hW hRG hdbG
  have tJ : ∀ a, a < 105 → (sqR (loF I) 10000000 G (beginM S.2) 4).2 a = S.2 a := fun a ha => (sqR_far hT 4 (Nat.le_refl _) a ha).trans (begM_far ha)
  obtain ⟨m1, m2, m3⟩ := begin_cons mk 4 (Nat.le_refl _)
  try dsimp only at m1 m2
  rw [← eS] at m1 m2
  have e0 : (sqB I 10000000 C J 0).1 = C := rfl
  rw [e0, cb] at m2
  have e06 : (sqR (loF I) 10000000 G (beginM S.2) 4).1 0 6 = p1 := by
    rw [ef 0 6 (by omega), eG2, st2_n _ _ (by omega), st2_n _ _ (by omega), st2_n _ _ (by omega), f1 0 6 (by omega), cb]
  refine ⟨_, _, fun a ha => ⟨funext fun y => ?_, (tJ a (by omega)).trans (by rw [eS])⟩, mk, ⟨⟨iv, fun b hb => ?_⟩, Cons_cg (fun a q => tJ a (by omega)) (fun v k hv hk => m1 v k hv hk), ?_⟩, e06⟩
  · rw [ef a y (by omega), eG2, st2_n _ _ (by omega), st2_n _ _ (by omega), st2_n _ _ (by omega), eS]
  · rw [ef 7 b (by omega), eG2, st2_n _ _ (by omega), st2_n _ _ (by omega), st2_n _ _ (by omega), f1 7 b (by omega), c1 7 (by decide)]
    exact h.1.2 b hb
  · rw [e06]
    exact Sett_cg (fun a q => tJ a (by omega)) (fun v hv => m2 v hv)
