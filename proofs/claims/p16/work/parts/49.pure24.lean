/-! sums of whole numbers -/
def suI (f : Nat → Int) : Nat → Int
  | 0 => 0
  | m + 1 => f m + suI f m
theorem suI_add (f g : Nat → Int) : ∀ m, suI (fun p => f p + g p) m = suI f m + suI g m
  | 0 => rfl
  | m + 1 => by unfold suI; rw [suI_add f g m]; omega
theorem suI_congr {f g : Nat → Int} : ∀ m, (∀ p, p < m → f p = g p) → suI f m = suI g m
  | 0, _ => rfl
  | m + 1, h => by unfold suI; rw [h m (Nat.lt_succ_self m), suI_congr m (fun p hp => h p (by omega))]
theorem suI_one {x : Int} {n : Nat} : ∀ m, suI (fun p => if p = n then x else 0) m = if n < m then x else 0
  | 0 => by rw [if_neg (Nat.not_lt_zero _)]; rfl
  | m + 1 => by
    unfold suI
    rw [suI_one m]
    show (if m = n then x else 0) + _ = _
    by_cases e : m = n
    · rw [if_pos e, if_neg (by omega), if_pos (by omega), Int.add_zero]
    · rw [if_neg e, Int.zero_add]
      by_cases q : n < m
      · rw [if_pos q, if_pos (by omega)]
      · rw [if_neg q, if_neg (by omega)]
theorem suI_abs (f : Nat → Int) : ∀ m, (suI f m).natAbs ≤ suN (fun p => (f p).natAbs) m
  | 0 => Nat.le_refl _
  | m + 1 => by
    have := suI_abs f m
    unfold suI suN
    omega
theorem suI_sg {c : Int} {g : Nat → Nat} : ∀ m, suI (fun p => c * (g p : Nat)) m = c * (suN g m : Nat)
  | 0 => by show (0 : Int) = c * ((0 : Nat) : Int); rw [Int.natCast_zero, Int.mul_zero]
  | m + 1 => by
    unfold suI suN
    rw [suI_sg m, Int.natCast_add, Int.mul_add]
theorem suN_mul {c : Nat} {f : Nat → Nat} : ∀ m, suN (fun p => c * f p) m = c * suN f m
  | 0 => rfl
  | m + 1 => by unfold suN; rw [suN_mul m, Nat.mul_add]
theorem suN_zero : ∀ m, suN (fun _ => 0) m = 0
  | 0 => rfl
  | m + 1 => by unfold suN; rw [suN_zero m]
theorem suN_swap (f : Nat → Nat → Nat) (a : Nat) : ∀ b, suN (fun n => suN (fun k => f n k) a) b = suN (fun k => suN (fun n => f n k) b) a
  | 0 => by
    show 0 = suN (fun _ => 0) a
    rw [suN_zero]
  | b + 1 => by
    have e : suN (fun k => suN (fun n => f n k) (b + 1)) a = suN (fun k => f b k + suN (fun n => f n k) b) a := rfl
    rw [e, suN_add, ← suN_swap f a b]
    rfl
/-! what is given, against its exact shares -/
def roN (U : Nat) (W : Nat → Int32) (T : Int32) (o : Nat) : Nat := if 0 < W o then U * (W o).toInt.toNat % T.toInt.toNat else 0
def cwN (W : Nat → Int32) : Nat → Nat
  | 0 => 0
  | m + 1 => (if 0 < W m then 1 else 0) + cwN W m
theorem w_zero {W : Nat → Int32} {T : Int32} (h : WT W T) {o : Nat} (ho : o < 9) (hz : ¬ 0 < W o) : (W o).toInt.toNat = 0 := by
  obtain ⟨a, -⟩ := h.1 o ho
  rw [Int32.lt_iff_toInt_lt, Int32.toInt_zero] at hz
  omega
theorem ro_pN {U : Nat} {W : Nat → Int32} {T : Int32} (h : WT W T) {o : Nat} (ho : o < 9) : T.toInt.toNat * (if 0 < W o then pN U W T o else 0) + roN U W T o = U * (W o).toInt.toNat := by
  unfold roN pN
  by_cases q : 0 < W o
  · rw [if_pos q, if_pos q]
    exact Nat.div_add_mod _ _
  · rw [if_neg q, if_neg q, w_zero h ho q, Nat.mul_zero, Nat.mul_zero]
theorem ro_le {U : Nat} {W : Nat → Int32} {T : Int32} (h : WT W T) : ∀ m, suN (roN U W T) m ≤ T.toInt.toNat * cwN W m
  | 0 => Nat.zero_le _
  | m + 1 => by
    have ih := ro_le (U := U) h m
    have hT := h.2.1
    unfold suN cwN
    rw [Nat.mul_add]
    have : roN U W T m ≤ T.toInt.toNat * (if 0 < W m then 1 else 0) := by
      unfold roN
      by_cases q : 0 < W m
      · rw [if_pos q, if_pos q, Nat.mul_one]
        exact Nat.le_of_lt (Nat.mod_lt _ (by omega))
      · rw [if_neg q, if_neg q]
        exact Nat.zero_le _
    omega
theorem q_ro {U : Nat} {W : Nat → Int32} {T : Int32} (h : WT W T) : ∀ m, m ≤ 9 → T.toInt.toNat * qN U W T m + suN (roN U W T) m = U * wN W m
  | 0, _ => by show T.toInt.toNat * 0 + 0 = U * 0; rw [Nat.mul_zero, Nat.mul_zero]
  | m + 1, hm => by
    have ih := q_ro (U := U) h m (by omega)
    have e := ro_pN (U := U) h (o := m) (by omega)
    unfold qN suN wN
    rw [Nat.mul_add, Nat.mul_add]
    omega
/-- shares: what T times a gift lacks -/
theorem gN_sh {U : Nat} {W : Nat → Int32} {T : Int32} {lo : Nat} (h : WT W T) (hlo : lo < 9) : suN (fun o => ((T.toInt.toNat : Int) * (gN U W T lo o : Nat) - ((W o).toInt.toNat : Int) * (U : Nat)).natAbs) 9 ≤ 2 * (T.toInt.toNat * cwN W 9) := by
  have hq := q_ro (U := U) h 9 (Nat.le_refl _)
  rw [← h.2.2] at hq
  have hl := qN_le (U := U) h
  have e1 : T.toInt.toNat * (U - qN U W T 9) = suN (roN U W T) 9 := by
    rw [Nat.mul_sub, Nat.mul_comm T.toInt.toNat U]
    omega
  have hle : suN (fun o => ((T.toInt.toNat : Int) * (gN U W T lo o : Nat) - ((W o).toInt.toNat : Int) * (U : Nat)).natAbs) 9 ≤ suN (fun o => roN U W T o + (if o = lo then T.toInt.toNat * (U - qN U W T 9) else 0)) 9 := by
    refine suN_le 9 (fun o ho => ?_)
    have e := ro_pN (U := U) h ho
    have e2 : T.toInt.toNat * gN U W T lo o = T.toInt.toNat * (if 0 < W o then pN U W T o else 0) + (if o = lo then T.toInt.toNat * (U - qN U W T 9) else 0) := by
      unfold gN
      rw [Nat.mul_add]
      congr 1
      split
      · rfl
      · exact Nat.mul_zero _
    rw [← Int.natCast_mul, ← Int.natCast_mul, Nat.mul_comm (W o).toInt.toNat U, e2]
    omega
  rw [suN_add, suN_one, if_pos hlo, e1] at hle
  have := ro_le (U := U) h 9
  omega
theorem cw_cN {I0 : SI} {W : Nat → Int32} {n : Nat} : ∀ m, m ≤ 9 → (∀ p, p < 9 → W p = wM I0 n p) → cwN W m = cN I0 n m
  | 0, _, _ => rfl
  | m + 1, hm, h => by
    unfold cwN cN
    rw [cw_cN m (by omega) h, h m (by omega)]
    omega
theorem cN_5 {I0 : SI} {n : Nat} (hn : n < 9) : cN I0 n 9 ≤ 5 := by
  have one : ∀ t, cN I0 n (4 + t) ≤ cN I0 n 4 + t := by
    intro t
    induction t with
    | zero => exact Nat.le_refl _
    | succ t ih =>
      show cN I0 n (4 + t) + (if 0 < wM I0 n (4 + t) then 1 else 0) ≤ _
      split <;> omega
  by_cases q : n < 4
  · have o5 : cN I0 n 9 ≤ cN I0 n 4 + 5 := one 5
    have := cN_r4 (I := I0) q 4 (Nat.le_refl _)
    omega
  · have e : cN I0 n 9 = cN I0 n 4 := cN_b9 (by omega) 5
    rw [e]
    have := cN_le I0 n 4
    omega
/-- five neighbours at most -/
theorem cw_5 {I0 I2 : SI} (hR : RelN I0 I2) (hW : W99 I0) {v n : Nat} (hv : v < 4) (hn : n < 9) : cwN (fromM I2 v n) 9 ≤ 5 := by
  by_cases h0 : cN I0 n 9 = 0
  · obtain ⟨e1, -⟩ := from_z hR hW (v := v) hn h0
    rw [e1]
    have key : ∀ m, cwN (fun p => if p = v then (1 : Int32) else 0) m ≤ if v < m then 1 else 0 := by
      intro m
      induction m with
      | zero => exact Nat.zero_le _
      | succ m ih =>
        unfold cwN
        by_cases e : m = v
        · rw [if_pos e, if_pos (by decide), if_pos (by omega)]
          rw [if_neg (by omega)] at ih
          omega
        · rw [if_neg e, if_neg (by decide)]
          by_cases q : v < m
          · rw [if_pos (by omega)]; rw [if_pos q] at ih; omega
          · rw [if_neg (by omega)]; rw [if_neg q] at ih; omega
    have := key 9
    rw [if_pos (by omega)] at this
    omega
  · obtain ⟨e1, -⟩ := from_w hR hW (v := v) hn h0
    rw [cw_cN 9 (Nat.le_refl _) e1]
    exact cN_5 hn
/-! the numbers that a walk keeps -/
def rI (J : SJ) (v p : Nat) : Int := (J 105 (9 * v + p)).toInt
def sI (J : SJ) (v n o : Nat) : Int := (J 107 (81 * v + 9 * n + o)).toInt
def mI (J : SJ) (v n : Nat) : Int := suI (sI J v n) 9
def inI (J : SJ) (v k : Nat) : Int := suI (fun n => sI J v n k) 9
/-- all that node k pushed, out of what it was given and what rests -/
def yI (J : SJ) (v k : Nat) : Int := (if k = v then 1000000 else 0) + inI J v k - rI J v k
def dfN (d : Int) (J : SJ) (v : Nat) : Nat := suN (fun n => (100 * mI J v n - d * yI J v n).natAbs) 9
def amN (J : SJ) (v : Nat) : Nat := suN (fun n => (mI J v n).natAbs) 9
/-- node n's row is told anew -/
theorem row_in {J J' : SJ} {v n : Nat} {g : Nat → Int} (hn : n < 9) (h1 : ∀ o, o < 9 → sI J' v n o = sI J v n o + g o) (h2 : ∀ m o, m < 9 → m ≠ n → o < 9 → sI J' v m o = sI J v m o) {k : Nat} (hk : k < 9) : inI J' v k = inI J v k + g k := by
  have e : inI J' v k = suI (fun m => sI J v m k + (if m = n then g k else 0)) 9 := suI_congr 9 (fun m hm => by
    by_cases q : m = n
    · rw [q, if_pos rfl, h1 k hk]
    · rw [if_neg q, h2 m k hm q hk, Int.add_zero])
  rw [e, suI_add, suI_one, if_pos hn]
  rfl
theorem row_m {J J' : SJ} {v n : Nat} {g : Nat → Int} (h1 : ∀ o, o < 9 → sI J' v n o = sI J v n o + g o) : mI J' v n = mI J v n + suI g 9 := by
  have e : mI J' v n = suI (fun o => sI J v n o + g o) 9 := suI_congr 9 h1
  rw [e, suI_add]
  rfl
theorem row_o {J J' : SJ} {v n m : Nat} (h2 : ∀ m o, m < 9 → m ≠ n → o < 9 → sI J' v m o = sI J v m o) (hm : m < 9) (q : m ≠ n) : mI J' v m = mI J v m := suI_congr 9 (fun o ho => h2 m o hm q ho)
/-- a node's shares -/
def shN (I : SI) (J : SJ) (v n : Nat) : Nat := suN (fun o => (((suM I n).toInt.toNat : Int) * sI J v n o - ((fromM I v n o).toInt.toNat : Int) * mI J v n).natAbs) 9
theorem sh_se {I : SI} {J : SJ} {v n c : Nat} (h : WT (fromM I v n) (suM I n)) (hs : shN I J v n ≤ (suM I n).toInt.toNat * c) : seN J v n ≤ (mI J v n).natAbs + c := by
  have hT := h.2.1
  have h1 : (suM I n).toInt.toNat * seN J v n ≤ shN I J v n + suN (fun o => (mI J v n).natAbs * (fromM I v n o).toInt.toNat) 9 := by
    unfold seN shN
    rw [← suN_mul, ← suN_add]
    refine suN_le 9 (fun o ho => ?_)
    have e1 : ((suM I n).toInt.toNat * (J 107 (81 * v + 9 * n + o)).toInt.natAbs) = (((suM I n).toInt.toNat : Int) * sI J v n o).natAbs := by
      rw [Int.natAbs_mul, Int.natAbs_natCast]
      rfl
    have e2 : (mI J v n).natAbs * (fromM I v n o).toInt.toNat = (((fromM I v n o).toInt.toNat : Int) * mI J v n).natAbs := by
      rw [Int.natAbs_mul, Int.natAbs_natCast, Nat.mul_comm]
    rw [e1, e2]
    omega
  have key : ∀ m, suN (fun o => (fromM I v n o).toInt.toNat) m = wN (fromM I v n) m := by
    intro m
    induction m with
    | zero => rfl
    | succ m ih => unfold suN wN; rw [ih]
  rw [suN_mul, key 9, ← h.2.2] at h1
  have h2 : (suM I n).toInt.toNat * seN J v n ≤ (suM I n).toInt.toNat * ((mI J v n).natAbs + c) := by
    rw [Nat.mul_add, Nat.mul_comm (suM I n).toInt.toNat (mI J v n).natAbs]
    omega
  exact Nat.le_of_mul_le_mul_left h2 (by omega)
/-- a row's shares behind a gift -/
theorem sh_gift {I : SI} {J J' : SJ} {v n lo U : Nat} {sg : Int} (hsg : sg = 1 ∨ sg = -1) (h : WT (fromM I v n) (suM I n)) (hlo : lo < 9) (hc : cwN (fromM I v n) 9 ≤ 5) (h1 : ∀ o, o < 9 → sI J' v n o = sI J v n o + sg * (gN U (fromM I v n) (suM I n) lo o : Nat)) :
    mI J' v n = mI J v n + sg * (U : Nat) ∧ shN I J' v n ≤ shN I J v n + (suM I n).toInt.toNat * 10 := by
  have e1 : mI J' v n = mI J v n + sg * (U : Nat) := by
    rw [row_m h1, suI_sg, gN_sum h hlo]
  refine ⟨e1, ?_⟩
  have g := gN_sh (U := U) h hlo
  have m := Nat.mul_le_mul_left (suM I n).toInt.toNat hc
  have hle : shN I J' v n ≤ suN (fun o => (((suM I n).toInt.toNat : Int) * sI J v n o - ((fromM I v n o).toInt.toNat : Int) * mI J v n).natAbs + (((suM I n).toInt.toNat : Int) * (gN U (fromM I v n) (suM I n) lo o : Nat) - ((fromM I v n o).toInt.toNat : Int) * (U : Nat)).natAbs) 9 := by
    refine suN_le 9 (fun o ho => ?_)
    rw [e1, h1 o ho]
    have e2 : ((suM I n).toInt.toNat : Int) * (sI J v n o + sg * (gN U (fromM I v n) (suM I n) lo o : Nat)) - ((fromM I v n o).toInt.toNat : Int) * (mI J v n + sg * (U : Nat)) = (((suM I n).toInt.toNat : Int) * sI J v n o - ((fromM I v n o).toInt.toNat : Int) * mI J v n) + sg * (((suM I n).toInt.toNat : Int) * (gN U (fromM I v n) (suM I n) lo o : Nat) - ((fromM I v n o).toInt.toNat : Int) * (U : Nat)) := by grind
    rw [e2]
    rcases hsg with q | q
    · rw [q, Int.one_mul]; exact Int.natAbs_add_le _ _
    · rw [q, Int.neg_mul, Int.one_mul]
      have := Int.natAbs_add_le (((suM I n).toInt.toNat : Int) * sI J v n o - ((fromM I v n o).toInt.toNat : Int) * mI J v n) (-(((suM I n).toInt.toNat : Int) * (gN U (fromM I v n) (suM I n) lo o : Nat) - ((fromM I v n o).toInt.toNat : Int) * (U : Nat)))
      rw [Int.natAbs_neg] at this
      exact this
  rw [suN_add] at hle
  unfold shN at hle ⊢
  omega
/-- what all nodes sent, out of the drift -/
theorem am_le {J : SJ} {v E C R : Nat} {d : Int} (hv : v < 4) (h1 : 50 ≤ d) (h2 : d ≤ 90) (hd : dfN d J v ≤ 9 * (100 - d).toNat * E) (hs : ssN J v ≤ amN J v + C) (hr : rN J v ≤ R) : amN J v ≤ 9 * (1000000 + C + R + E) := by
  have y1 : suN (fun k => (yI J v k).natAbs) 9 ≤ 1000000 + ssN J v + rN J v := by
    have a : suN (fun k => (yI J v k).natAbs) 9 ≤ suN (fun k => ((if k = v then 1000000 else 0) + suN (fun n => (sI J v n k).natAbs) 9) + (rI J v k).natAbs) 9 := by
      refine suN_le 9 (fun k hk => ?_)
      have := suI_abs (fun n => sI J v n k) 9
      unfold yI inI
      split <;> omega
    rw [suN_add, suN_add, suN_one, if_pos (by omega), ← suN_swap (fun n k => (sI J v n k).natAbs) 9 9] at a
    exact a
  have x1 : 100 * amN J v ≤ d.toNat * suN (fun k => (yI J v k).natAbs) 9 + dfN d J v := by
    unfold amN dfN
    rw [← suN_mul, ← suN_mul, ← suN_add]
    refine suN_le 9 (fun n hn => ?_)
    have e : d.toNat * (yI J v n).natAbs = (d * yI J v n).natAbs := by
      rw [Int.natAbs_mul]
      congr 1
      omega
    rw [e]
    omega
  have m1 : d.toNat * suN (fun k => (yI J v k).natAbs) 9 ≤ d.toNat * (amN J v + (1000000 + C + R)) := Nat.mul_le_mul_left _ (by omega)
  have e5 : (100 - d).toNat = 100 - d.toNat := by omega
  rw [e5] at hd
  rw [Nat.mul_add] at m1
  have m2 : d.toNat * (1000000 + C + R) ≤ 9 * (100 - d.toNat) * (1000000 + C + R) := Nat.mul_le_mul_right _ (by omega)
  have m3 : (100 - d.toNat) * amN J v + d.toNat * amN J v = 100 * amN J v := by
    rw [← Nat.add_mul]
    congr 1
    omega
  have m4 : (100 - d.toNat) * amN J v ≤ (100 - d.toNat) * (9 * (1000000 + C + R + E)) := by
    have e6 : (100 - d.toNat) * (9 * (1000000 + C + R + E)) = 9 * (100 - d.toNat) * (1000000 + C + R) + 9 * (100 - d.toNat) * E := by
      rw [← Nat.mul_add, Nat.mul_comm 9 (100 - d.toNat), Nat.mul_assoc]
    rw [e6]
    omega
  exact Nat.le_of_mul_le_mul_left m4 (by omega)
