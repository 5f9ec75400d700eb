/-! a push makes the rests less: the crude law -/
theorem i64_add {a b : Int64} (h1 : -1000000000000000 ≤ a.toInt + b.toInt) (h2 : a.toInt + b.toInt ≤ 1000000000000000) : (a + b).toInt = a.toInt + b.toInt := by
  rw [Int64.toInt_add, Int.bmod_def]
  split <;> omega
theorem i64_sub {a b : Int64} (h1 : -1000000000000000 ≤ a.toInt - b.toInt) (h2 : a.toInt - b.toInt ≤ 1000000000000000) : (a - b).toInt = a.toInt - b.toInt := by
  rw [Int64.toInt_sub, Int.bmod_def]
  split <;> omega
theorem i64_mul {a b : Int64} (h1 : -1000000000000000 ≤ a.toInt * b.toInt) (h2 : a.toInt * b.toInt ≤ 1000000000000000) : (a * b).toInt = a.toInt * b.toInt := by
  rw [Int64.toInt_mul, Int.bmod_def]
  split <;> omega
theorem i64_div {a b : Int64} (hb : 0 < b.toInt) (h1 : -1000000000000000 ≤ a.toInt) (h2 : a.toInt ≤ 1000000000000000) : (a / b).toInt = a.toInt.tdiv b.toInt := by
  rw [Int64.toInt_div, Int.bmod_def]
  have hn : (a.toInt.tdiv b.toInt).natAbs ≤ a.toInt.natAbs := by
    rw [Int.natAbs_tdiv]
    exact Nat.div_le_self _ _
  split <;> omega
/-- the part of o, without sign -/
def pN (U : Nat) (W : Nat → Int32) (T : Int32) (o : Nat) : Nat := U * (W o).toInt.toNat / T.toInt.toNat
def qN (U : Nat) (W : Nat → Int32) (T : Int32) : Nat → Nat
  | 0 => 0
  | m + 1 => (if 0 < W m then pN U W T m else 0) + qN U W T m
def wN (W : Nat → Int32) : Nat → Nat
  | 0 => 0
  | m + 1 => (W m).toInt.toNat + wN W m
def sgI (u : Int) : Int := if 0 ≤ u then 1 else -1
theorem sgI_abs (u : Int) : u = sgI u * u.natAbs := by
  unfold sgI
  split <;> omega
theorem qN_mul {U : Nat} {W : Nat → Int32} {T : Int32} : ∀ m, qN U W T m * T.toInt.toNat ≤ U * wN W m
  | 0 => by show 0 * _ ≤ _; rw [Nat.zero_mul]; exact Nat.zero_le _
  | m + 1 => by
    have ih := qN_mul (U := U) (W := W) (T := T) m
    have h1 : pN U W T m * T.toInt.toNat ≤ U * (W m).toInt.toNat := Nat.div_mul_le_self _ _
    unfold qN wN
    rw [Nat.add_mul, Nat.mul_add]
    split
    · exact Nat.add_le_add h1 ih
    · rw [Nat.zero_mul]; exact Nat.le_trans (by omega) (Nat.add_le_add (Nat.zero_le _) ih)
/-- weights from 0 to 99, their sum T -/
def WT (W : Nat → Int32) (T : Int32) : Prop := (∀ o, o < 9 → 0 ≤ (W o).toInt ∧ (W o).toInt ≤ 99) ∧ 0 < T.toInt ∧ T.toInt.toNat = wN W 9
theorem qN_le {U : Nat} {W : Nat → Int32} {T : Int32} (h : WT W T) : qN U W T 9 ≤ U := by
  have h1 := qN_mul (U := U) (W := W) (T := T) 9
  rw [← h.2.2] at h1
  have := h.2.1
  exact Nat.le_of_mul_le_mul_right h1 (by omega)
theorem ptW_int {u : Int64} {W : Nat → Int32} {T : Int32} (h : WT W T) (hu : u.toInt.natAbs ≤ 1000000000000) {o : Nat} (ho : o < 9) : (ptW W T u o).toInt = sgI u.toInt * (pN u.toInt.natAbs W T o : Nat) := by
  obtain ⟨a, b⟩ := h.1 o ho
  have hT := h.2.1
  unfold ptW
  have eW : (W o).toInt64.toInt = (W o).toInt := Int32.toInt_toInt64 _
  have eT : T.toInt64.toInt = T.toInt := Int32.toInt_toInt64 _
  have k1 : (u.toInt * (W o).toInt).natAbs ≤ 99000000000000 := by
    rw [Int.natAbs_mul]
    have : (W o).toInt.natAbs ≤ 99 := by omega
    exact Nat.le_trans (Nat.mul_le_mul hu this) (by decide)
  have e1 : (u * (W o).toInt64).toInt = u.toInt * (W o).toInt := by
    rw [i64_mul (by rw [eW]; omega) (by rw [eW]; omega), eW]
  rw [i64_div (by rw [eT]; exact hT) (by rw [e1]; omega) (by rw [e1]; omega), e1, eT]
  unfold pN
  have eW2 : ((W o).toInt.toNat : Int) = (W o).toInt := by omega
  have eT2 : (T.toInt.toNat : Int) = T.toInt := by omega
  rw [Int.natCast_ediv, Int.natCast_mul, eW2, eT2]
  have hnn : 0 ≤ (u.toInt.natAbs : Int) * (W o).toInt := Int.mul_nonneg (by omega) a
  rw [← Int.tdiv_eq_ediv_of_nonneg hnn]
  conv => lhs; rw [sgI_abs u.toInt]
  unfold sgI
  split
  · rw [Int.one_mul, Int.one_mul]
  · rw [Int.neg_mul, Int.one_mul, Int.neg_mul, Int.neg_tdiv, Int.neg_mul, Int.one_mul]
