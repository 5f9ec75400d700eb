/-! what a push does to rests and to what is sent: in whole numbers -/
theorem wM_sy (I : SI) (n m : Nat) : wM I n m = wM I m n := by
  unfold wM
  by_cases q1 : n < 4 <;> by_cases q2 : m < 4 <;> simp [q1, q2]
theorem cN_pos {I : SI} {n m : Nat} (hm : m < 9) (h : 0 < wM I n m) : cN I n 9 ≠ 0 := by
  have := cN_lt h hm
  omega
theorem pN_0 {U : Nat} {W : Nat → Int32} {T : Int32} {o : Nat} : (if 0 < W o then pN U W T o else 0) ≤ U * (W o).toInt.toNat / T.toInt.toNat := by
  split
  · exact Nat.le_refl _
  · exact Nat.zero_le _
section Gifts
variable {I0 I2 : SI}
theorem gN_w {U : Nat} {v n p : Nat} (hR : RelN I0 I2) (hW : W99 I0) (hn : n < 9) (hp : p < 9) (h0 : ¬ cN I0 n 9 = 0) (hz : ¬ 0 < wM I0 n p) : gN U (fromM I2 v n) (suM I2 n) (loF I0 v n) p = 0 := by
  obtain ⟨e1, e2⟩ := from_w hR hW (v := v) hn h0
  have hlo := nbS_ok 9 (by omega : 0 < cN I0 n 9)
  unfold gN
  rw [e1 p hp, if_neg hz, if_neg]
  intro e
  have e9 : loF I0 v n = nbF I0 n 0 := by unfold loF; rw [if_pos (by omega)]
  rw [e9] at e
  apply hz
  rw [e]
  exact hlo.2.1
theorem gN_z {U : Nat} {v n p : Nat} (hR : RelN I0 I2) (hW : W99 I0) (hn : n < 9) (h0 : cN I0 n 9 = 0) : gN U (fromM I2 v n) (suM I2 n) (loF I0 v n) p = if p = v then U - (if v < 9 then U else 0) + U else 0 := by
  obtain ⟨e1, e2⟩ := from_z hR hW (v := v) hn h0
  have key : ∀ m, qN U (fun p => if p = v then (1 : Int32) else 0) 1 m = if v < m then U else 0 := by
    intro m
    induction m with
    | zero => rw [if_neg (Nat.not_lt_zero _)]; rfl
    | succ m ih =>
      unfold qN pN
      rw [ih]
      dsimp only
      by_cases e : m = v
      · rw [if_pos e, if_pos (by decide), if_neg (by omega), if_pos (by omega)]
        show U * 1 / 1 + 0 = U
        omega
      · rw [if_neg e, if_neg (by decide), Nat.zero_add]
        by_cases q : v < m
        · rw [if_pos q, if_pos (by omega)]
        · rw [if_neg q, if_neg (by omega)]
  unfold gN
  have e9 : loF I0 v n = v := by unfold loF; rw [if_neg (by omega)]
  rw [e1, e2, e9, key 9]
  dsimp only
  by_cases e : p = v
  · have z : (0 : Int32) < 1 := by decide
    simp only [if_pos e, if_pos z, pN]
    show U * 1 / 1 + (U - (if v < 9 then U else 0)) = _
    omega
  · have z : ¬ (0 : Int32) < 0 := by decide
    simp only [if_neg e, if_neg z]
theorem gN_zv {U : Nat} {v n p : Nat} (hR : RelN I0 I2) (hW : W99 I0) (hv : v < 4) (hn : n < 9) (h0 : cN I0 n 9 = 0) : gN U (fromM I2 v n) (suM I2 n) (loF I0 v n) p = if p = v then U else 0 := by
  rw [gN_z hR hW hn h0, if_pos (by omega : v < 9)]
  split <;> omega
/-- books give to readers -/
theorem gN_book {U : Nat} {v n p : Nat} (hR : RelN I0 I2) (hW : W99 I0) (hv : v < 4) (hn : n < 9) (h4 : 4 ≤ n) (hp : p < 9) (hp4 : 4 ≤ p) : gN U (fromM I2 v n) (suM I2 n) (loF I0 v n) p = 0 := by
  by_cases h0 : cN I0 n 9 = 0
  · rw [gN_zv hR hW hv hn h0, if_neg (by omega)]
  · exact gN_w hR hW hn hp h0 (by rw [wM_b h4 hp4]; decide)
/-- readers give to books -/
theorem gN_read {U : Nat} {v n p : Nat} (hR : RelN I0 I2) (hW : W99 I0) (hn : n < 4) (h0 : ¬ cN I0 n 9 = 0) (hp : p < 4) : gN U (fromM I2 v n) (suM I2 n) (loF I0 v n) p = 0 := gN_w hR hW (by omega) (by omega) h0 (by rw [wM_r hn hp]; decide)
/-- a node without neighbours is given nothing, but for the walk's reader -/
theorem gN_iso {U : Nat} {v n p : Nat} (hR : RelN I0 I2) (hW : W99 I0) (hv : v < 4) (hn : n < 9) (hp : p < 9) (hpv : p ≠ v) (h0 : cN I0 p 9 = 0) : gN U (fromM I2 v n) (suM I2 n) (loF I0 v n) p = 0 := by
  by_cases hn0 : cN I0 n 9 = 0
  · rw [gN_zv hR hW hv hn hn0, if_neg hpv]
  · exact gN_w hR hW hn hp hn0 (fun z => by
      rw [wM_sy] at z
      exact cN_pos hn z h0)
/-- the walk's reader without neighbours is given by nodes without neighbours alone -/
theorem gN_isov {U : Nat} {v n : Nat} (hR : RelN I0 I2) (hW : W99 I0) (hv : v < 4) (hn : n < 9) (hn0 : ¬ cN I0 n 9 = 0) (h0 : cN I0 v 9 = 0) : gN U (fromM I2 v n) (suM I2 n) (loF I0 v n) v = 0 := gN_w hR hW hn (by omega) hn0 (fun z => by
  rw [wM_sy] at z
  exact cN_pos hn z h0)
end Gifts
/-- what is kept of a push: what is sent (U) and what lands (k) -/
def keepU (a : Nat) (d : Int32) : Nat := a - a * (100 - d.toInt).toNat / 100
theorem keepU_ok {a : Nat} {d : Int32} (h1 : 50 ≤ d.toInt) (h2 : d.toInt ≤ 90) : keepU a d + a * (100 - d.toInt).toNat / 100 = a ∧ a * 10 / 100 ≤ a * (100 - d.toInt).toNat / 100 := by
  have : a * (100 - d.toInt).toNat / 100 ≤ a := by
    refine Nat.div_le_of_le_mul ?_
    rw [Nat.mul_comm]
    exact Nat.mul_le_mul_right _ (by omega)
  refine ⟨by unfold keepU; omega, Nat.div_le_div_right (Nat.mul_le_mul_left _ (by omega))⟩
theorem push_all {I : SI} {J : SJ} {v n : Nat} {lo : Nat → Nat → Nat} (hv : v < 4) (hn : n < 9) (hlo : lo v n < 9) (hW : WT (fromM I v n) (suM I n)) (h1 : 50 ≤ (I 102 2).toInt) (h2 : (I 102 2).toInt ≤ 90) (hS : rN J v ≤ 1000000000000) (hr : 100 ≤ (J 105 (9 * v + n)).toInt.natAbs) (hE : ssN J v ≤ 100000000000000) :
    (∀ p, p < 9 → (pushM I lo J v n 105 (9 * v + p)).toInt = (if p = n then 0 else (J 105 (9 * v + p)).toInt) + sgI (J 105 (9 * v + n)).toInt * (gN (keepU (J 105 (9 * v + n)).toInt.natAbs (I 102 2)) (fromM I v n) (suM I n) (lo v n) p : Nat)) ∧
    (∀ p, p < 9 → (pushM I lo J v n 107 (81 * v + 9 * n + p)).toInt = (J 107 (81 * v + 9 * n + p)).toInt + sgI (J 105 (9 * v + n)).toInt * (gN (keepU (J 105 (9 * v + n)).toInt.natAbs (I 102 2)) (fromM I v n) (suM I n) (lo v n) p : Nat)) ∧
    (∀ m o, m < 9 → m ≠ n → o < 9 → pushM I lo J v n 107 (81 * v + 9 * m + o) = J 107 (81 * v + 9 * m + o)) := by
  have hrS : (J 105 (9 * v + n)).toInt.natAbs ≤ rN J v := suN_at (f := fun p => (J 105 (9 * v + p)).toInt.natAbs) 9 n hn
  obtain ⟨k, hl, hk⟩ := land_int (J := J) (v := v) (n := n) h1 h2 (by omega)
  obtain ⟨ku, -⟩ := keepU_ok (a := (J 105 (9 * v + n)).toInt.natAbs) h1 h2
  rw [← hk] at ku
  have hk50 : k * 100 ≤ (J 105 (9 * v + n)).toInt.natAbs * 50 := by
    have q1 : k * 100 ≤ (J 105 (9 * v + n)).toInt.natAbs * (100 - (I 102 2).toInt).toNat := by rw [hk]; exact Nat.div_mul_le_self _ _
    exact Nat.le_trans q1 (Nat.mul_le_mul_left _ (by omega))
  have hsg := sgI_abs (J 105 (9 * v + n)).toInt
  generalize hL : landM I J v n = L at *
  have eu : (J 105 (9 * v + n) - L).toInt = (J 105 (9 * v + n)).toInt - L.toInt := by
    apply i64_sub
    · rw [hl]; unfold sgI; split <;> omega
    · rw [hl]; unfold sgI; split <;> omega
  have eU : (J 105 (9 * v + n) - L).toInt.natAbs = keepU (J 105 (9 * v + n)).toInt.natAbs (I 102 2) := by
    rw [eu, hl]; unfold sgI; split <;> omega
  have eS : sgI (J 105 (9 * v + n) - L).toInt = sgI (J 105 (9 * v + n)).toInt := by
    rw [eu, hl]; unfold sgI; split <;> split <;> omega
  generalize hu : J 105 (9 * v + n) - L = u at *
  obtain ⟨c1, c2, c3⟩ := sendM_eq (I := I) (J := st2 (st2 J 105 (9 * v + n) 0) 106 (9 * v + n) ((st2 J 105 (9 * v + n) 0) 106 (9 * v + n) + L)) (u := u) hv hn hlo
  have eP : pushM I lo J v n = sendM I (st2 (st2 J 105 (9 * v + n) 0) 106 (9 * v + n) ((st2 J 105 (9 * v + n) 0) 106 (9 * v + n) + L)) v n u (lo v n) := by
    unfold pushM
    rw [hL, hu]
  rw [eP]
  refine ⟨fun p hp => ?_, fun p hp => ?_, fun m o hm hmn ho => ?_⟩
  · obtain ⟨g1, g2⟩ := gM_int (lo := lo v n) hW (by omega : u.toInt.natAbs ≤ 1000000000000) hp
    rw [eS, eU] at g1
    rw [eU] at g2
    have hpS : (J 105 (9 * v + p)).toInt.natAbs ≤ rN J v := suN_at (f := fun p => (J 105 (9 * v + p)).toInt.natAbs) 9 p hp
    have g3 : (gM I v n u (lo v n) p).toInt.natAbs ≤ 1000000000000 := by
      rw [g1]; unfold sgI; split <;> omega
    rw [c1 p hp, st2_n _ _ (by omega), ← g1]
    by_cases e : p = n
    · subst e
      rw [st2_s, if_pos rfl, Int64.zero_add, Int.zero_add]
    · rw [st2_n _ _ (by omega), if_neg e, i64_add (by omega) (by omega)]
  · obtain ⟨g1, g2⟩ := gM_int (lo := lo v n) hW (by omega : u.toInt.natAbs ≤ 1000000000000) hp
    rw [eS, eU] at g1
    rw [eU] at g2
    have hm1 : seN J v n ≤ ssN J v := suN_at (f := seN J v) 9 n hn
    have hm2 : (J 107 (81 * v + 9 * n + p)).toInt.natAbs ≤ seN J v n := suN_at (f := fun o => (J 107 (81 * v + 9 * n + o)).toInt.natAbs) 9 p hp
    have g3 : (gM I v n u (lo v n) p).toInt.natAbs ≤ 1000000000000 := by
      rw [g1]; unfold sgI; split <;> omega
    rw [c2 p hp, st2_n _ _ (by omega), st2_n _ _ (by omega), ← g1, i64_add (by omega) (by omega)]
  · rw [c3 _ _ (by omega) (by omega), st2_n _ _ (by omega), st2_n _ _ (by omega)]
theorem un_iff {J : SJ} {v n : Nat} {bd : Int32} (hb : 100 ≤ bd.toInt) : unM J v n bd = true ↔ bd.toInt.toNat ≤ (J 105 (9 * v + n)).toInt.natAbs := by
  unfold unM
  have e1 : bd.toInt64.toInt = bd.toInt := Int32.toInt_toInt64 _
  have hbm := Int32.toInt_lt bd
  have e2 : (-bd).toInt64.toInt = -bd.toInt := by
    rw [Int32.toInt_toInt64, Int32.toInt_neg, Int.bmod_def]
    split <;> omega
  rw [Bool.or_eq_true, decide_eq_true_eq, decide_eq_true_eq, Int64.le_iff_toInt_le, Int64.le_iff_toInt_le, e1, e2]
  omega
/-- the lowest one, all below it few -/
theorem nx_low {J : SJ} {v : Nat} {bd : Int32} : ∀ t j, nxF J v bd t j ≠ -1 → ∃ n, j ≤ n ∧ n < j + t ∧ nxF J v bd t j = nI n ∧ unM J v n bd = true ∧ ∀ i, j ≤ i → i < n → ¬ unM J v i bd = true
  | 0, j, h => absurd rfl h
  | t + 1, j, h => by
    unfold nxF at h ⊢
    by_cases q : unM J v j bd = true
    · rw [if_pos q]; exact ⟨j, Nat.le_refl _, by omega, rfl, q, fun i a b => by omega⟩
    · rw [if_neg q] at h ⊢
      obtain ⟨n, a, b, d, e, f⟩ := nx_low t (j + 1) h
      refine ⟨n, by omega, by omega, d, e, fun i x y => ?_⟩
      by_cases z : i = j
      · rw [z]; exact q
      · exact f i (by omega) y
theorem nx_none {J : SJ} {v : Nat} {bd : Int32} : ∀ t j, nxF J v bd t j = -1 → j + t ≤ 9 → ∀ i, j ≤ i → i < j + t → ¬ unM J v i bd = true
  | 0, j, _, _, i, a, b => by omega
  | t + 1, j, h, h9, i, a, b => by
    unfold nxF at h
    by_cases q : unM J v j bd = true
    · rw [if_pos q] at h
      exact absurd h (by
        have : j < 9 := by omega
        intro z
        have e : (nI j).toInt = (-1 : Int32).toInt := by rw [z]
        rw [nI_toInt (by omega)] at e
        have : (-1 : Int32).toInt = -1 := rfl
        omega)
    · rw [if_neg q] at h
      by_cases z : i = j
      · rw [z]; exact q
      · exact nx_none t (j + 1) h (by omega) i (by omega) (by omega)
/-! the walk told over times -/
def ndM (v : Nat) (p : SI × SJ) : Nat := (nxF p.2 v (p.1 102 3) 9 0).toNatClampNeg
def stpM (lo : Nat → Nat → Nat) (v : Nat) (p : SI × SJ) : SI × SJ := (pushMI p.1, pushM p.1 lo p.2 v (ndM v p))
def trj (lo : Nat → Nat → Nat) (v : Nat) : Nat → SI × SJ → SI × SJ
  | 0, p => p
  | t + 1, p => stpM lo v (trj lo v t p)
theorem trj_s {lo : Nat → Nat → Nat} {v : Nat} : ∀ t p, trj lo v (t + 1) p = trj lo v t (stpM lo v p)
  | 0, _ => rfl
  | t + 1, p => by
    show stpM lo v (trj lo v (t + 1) p) = stpM lo v (trj lo v t (stpM lo v p))
    rw [trj_s t p]
theorem run_s {lo : Nat → Nat → Nat} {v f : Nat} {p : SI × SJ} (c : ¬ nxF p.2 v (p.1 102 3) 9 0 = -1) : runM lo v (f + 1) p.1 p.2 = runM lo v f (stpM lo v p).1 (stpM lo v p).2 := by
  conv => lhs; unfold runM
  rw [if_neg c]
  unfold stpM ndM
  rfl
/-- not settled -/
def nsM (v : Nat) (p : SI × SJ) : Prop := nxF p.2 v (p.1 102 3) 9 0 ≠ -1
theorem run_none {lo : Nat → Nat → Nat} {v : Nat} : ∀ f p, runM lo v f p.1 p.2 = none → ∀ t, t ≤ f → nsM v (trj lo v t p)
  | 0, p, h, t, ht => by
    unfold runM at h
    have e : t = 0 := by omega
    subst e
    intro c
    have c : nxF p.2 v (p.1 102 3) 9 0 = -1 := c
    rw [if_pos c] at h
    cases h
  | f + 1, p, h, t, ht => by
    by_cases c : nxF p.2 v (p.1 102 3) 9 0 = -1
    · unfold runM at h; rw [if_pos c] at h; cases h
    · rw [run_s c] at h
      cases t with
      | zero => exact c
      | succ t =>
        rw [trj_s]
        exact run_none f (stpM lo v p) h t (by omega)
theorem run_some {lo : Nat → Nat → Nat} {v : Nat} : ∀ f p s, runM lo v f p.1 p.2 = some s → ∃ t, t ≤ f ∧ s = trj lo v t p ∧ nxF s.2 v (s.1 102 3) 9 0 = -1 ∧ ∀ x, x < t → nsM v (trj lo v x p)
  | 0, p, s, h => by
    unfold runM at h
    by_cases c : nxF p.2 v (p.1 102 3) 9 0 = -1
    · rw [if_pos c] at h
      cases h
      exact ⟨0, Nat.le_refl _, rfl, c, fun x hx => absurd hx (Nat.not_lt_zero _)⟩
    · rw [if_neg c] at h; cases h
  | f + 1, p, s, h => by
    by_cases c : nxF p.2 v (p.1 102 3) 9 0 = -1
    · unfold runM at h
      rw [if_pos c] at h
      cases h
      exact ⟨0, Nat.zero_le _, rfl, c, fun x hx => absurd hx (Nat.not_lt_zero _)⟩
    · rw [run_s c] at h
      obtain ⟨t, t1, t2, t3, t4⟩ := run_some f (stpM lo v p) s h
      refine ⟨t + 1, by omega, by rw [trj_s]; exact t2, t3, fun x hx => ?_⟩
      cases x with
      | zero => exact c
      | succ x => rw [trj_s]; exact t4 x (by omega)
