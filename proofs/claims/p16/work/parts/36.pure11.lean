theorem pN_le {U : Nat} {W : Nat → Int32} {T : Int32} : ∀ m o, o < m → (if 0 < W o then pN U W T o else 0) ≤ qN U W T m
  | 0, o, h => absurd h (Nat.not_lt_zero _)
  | m + 1, o, h => by
    unfold qN
    by_cases e : o = m
    · rw [e]; exact Nat.le_add_right _ _
    · exact Nat.le_trans (pN_le m o (by omega)) (Nat.le_add_left _ _)
theorem qN_mono {U : Nat} {W : Nat → Int32} {T : Int32} : ∀ m, m ≤ 9 → qN U W T m ≤ qN U W T 9 := by
  intro m hm
  have key : ∀ t, qN U W T m ≤ qN U W T (m + t) := by
    intro t
    induction t with
    | zero => exact Nat.le_refl _
    | succ t ih => exact Nat.le_trans ih (by show _ ≤ _ + qN U W T (m + t); exact Nat.le_add_left _ _)
  have := key (9 - m)
  rwa [show m + (9 - m) = 9 from by omega] at this
theorem qW_int {u : Int64} {W : Nat → Int32} {T : Int32} (h : WT W T) (hu : u.toInt.natAbs ≤ 1000000000000) : ∀ m, m ≤ 9 → (qW W T u m).toInt = sgI u.toInt * (qN u.toInt.natAbs W T m : Nat)
  | 0, _ => by show (0 : Int64).toInt = sgI u.toInt * ((0 : Nat) : Int); rw [Int.natCast_zero, Int.mul_zero]; rfl
  | m + 1, hm => by
    have ih := qW_int h hu m (by omega)
    have hq := Nat.le_trans (qN_mono (U := u.toInt.natAbs) (W := W) (T := T) (m + 1) hm) (qN_le h)
    unfold qW
    by_cases p : 0 < W m
    · have e1 := ptW_int h hu (o := m) (by omega)
      have e2 : qN u.toInt.natAbs W T (m + 1) = pN u.toInt.natAbs W T m + qN u.toInt.natAbs W T m := by
        conv => lhs; unfold qN
        rw [if_pos p]
      rw [if_pos p]
      have e3 : (ptW W T u m).toInt + (qW W T u m).toInt = sgI u.toInt * (qN u.toInt.natAbs W T (m + 1) : Nat) := by
        rw [e1, ih, e2, Int.natCast_add, Int.mul_add]
      have e4 : (ptW W T u m).toInt + (qW W T u m).toInt = (qN u.toInt.natAbs W T (m + 1) : Nat) ∨ (ptW W T u m).toInt + (qW W T u m).toInt = -(qN u.toInt.natAbs W T (m + 1) : Nat) := by
        rw [e3]; unfold sgI; split
        · left; rw [Int.one_mul]
        · right; rw [Int.neg_mul, Int.one_mul]
      rw [i64_add (by omega) (by omega), e3]
    · have e2 : qN u.toInt.natAbs W T (m + 1) = qN u.toInt.natAbs W T m := by
        conv => lhs; unfold qN
        rw [if_neg p, Nat.zero_add]
      rw [if_neg p, Int64.zero_add, ih, e2]
/-- what node p is given, without sign -/
def gN (U : Nat) (W : Nat → Int32) (T : Int32) (lo p : Nat) : Nat := (if 0 < W p then pN U W T p else 0) + (if p = lo then U - qN U W T 9 else 0)
theorem gM_int {I : SI} {v n lo : Nat} {u : Int64} (h : WT (fromM I v n) (suM I n)) (hu : u.toInt.natAbs ≤ 1000000000000) {p : Nat} (hp : p < 9) :
    (gM I v n u lo p).toInt = sgI u.toInt * (gN u.toInt.natAbs (fromM I v n) (suM I n) lo p : Nat) ∧ gN u.toInt.natAbs (fromM I v n) (suM I n) lo p ≤ u.toInt.natAbs := by
  have hq := qN_le (U := u.toInt.natAbs) h
  have hpq := pN_le (U := u.toInt.natAbs) (W := fromM I v n) (T := suM I n) 9 p hp
  have e1 : (gW (fromM I v n) (suM I n) u 9 p).toInt = sgI u.toInt * ((if 0 < fromM I v n p then pN u.toInt.natAbs (fromM I v n) (suM I n) p else 0 : Nat) : Int) := by
    unfold gW
    by_cases q : 0 < fromM I v n p
    · rw [if_pos ⟨hp, q⟩, if_pos q]; exact ptW_int h hu hp
    · rw [if_neg (fun z => q z.2), if_neg q, Int.natCast_zero, Int.mul_zero]; rfl
  have e2 := qW_int h hu 9 (Nat.le_refl _)
  have hs := sgI_abs u.toInt
  have e3 : (u - qW (fromM I v n) (suM I n) u 9).toInt = sgI u.toInt * ((u.toInt.natAbs - qN u.toInt.natAbs (fromM I v n) (suM I n) 9 : Nat) : Int) := by
    have e4 : u.toInt - (qW (fromM I v n) (suM I n) u 9).toInt = sgI u.toInt * ((u.toInt.natAbs - qN u.toInt.natAbs (fromM I v n) (suM I n) 9 : Nat) : Int) := by
      rw [e2]
      conv => lhs; lhs; rw [hs]
      rw [← Int.mul_sub, Int.ofNat_sub hq]
    rw [i64_sub, e4]
    · rw [e4]; unfold sgI; split <;> omega
    · rw [e4]; unfold sgI; split <;> omega
  unfold gM gN
  refine ⟨?_, ?_⟩
  · by_cases e : p = lo
    · rw [if_pos e, if_pos e]
      have e5 : (gW (fromM I v n) (suM I n) u 9 p).toInt + (u - qW (fromM I v n) (suM I n) u 9).toInt = sgI u.toInt * (((if 0 < fromM I v n p then pN u.toInt.natAbs (fromM I v n) (suM I n) p else 0) + (u.toInt.natAbs - qN u.toInt.natAbs (fromM I v n) (suM I n) 9) : Nat) : Int) := by
        rw [e1, e3, Int.natCast_add, Int.mul_add]
      rw [i64_add, e5]
      · rw [e5]; unfold sgI; split <;> omega
      · rw [e5]; unfold sgI; split <;> omega
    · rw [if_neg e, if_neg e, l_zero, Nat.add_zero, e1]
  · by_cases e : p = lo
    · rw [if_pos e]; omega
    · rw [if_neg e]; omega
/-- sum over the first m nodes -/
def suN (f : Nat → Nat) : Nat → Nat
  | 0 => 0
  | m + 1 => f m + suN f m
theorem suN_add (f g : Nat → Nat) : ∀ m, suN (fun p => f p + g p) m = suN f m + suN g m
  | 0 => rfl
  | m + 1 => by unfold suN; rw [suN_add f g m]; omega
theorem suN_le {f g : Nat → Nat} : ∀ m, (∀ p, p < m → f p ≤ g p) → suN f m ≤ suN g m
  | 0, _ => Nat.le_refl _
  | m + 1, h => by unfold suN; exact Nat.add_le_add (h m (Nat.lt_succ_self m)) (suN_le m (fun p hp => h p (by omega)))
theorem suN_one {x lo : Nat} : ∀ m, suN (fun p => if p = lo then x else 0) m = if lo < m then x else 0
  | 0 => by rw [if_neg (Nat.not_lt_zero _)]; rfl
  | m + 1 => by
    unfold suN
    rw [suN_one m]
    show (if m = lo then x else 0) + _ = _
    by_cases e : m = lo
    · rw [if_pos e, if_neg (by omega), if_pos (by omega), Nat.add_zero]
    · rw [if_neg e, Nat.zero_add]
      by_cases q : lo < m
      · rw [if_pos q, if_pos (by omega)]
      · rw [if_neg q, if_neg (by omega)]
theorem suN_q {U : Nat} {W : Nat → Int32} {T : Int32} : ∀ m, suN (fun p => if 0 < W p then pN U W T p else 0) m = qN U W T m
  | 0 => rfl
  | m + 1 => by unfold suN qN; rw [suN_q m]
theorem suN_at {f : Nat → Nat} : ∀ m n, n < m → f n ≤ suN f m
  | 0, n, h => absurd h (Nat.not_lt_zero _)
  | m + 1, n, h => by
    unfold suN
    by_cases e : n = m
    · rw [e]; exact Nat.le_add_right _ _
    · exact Nat.le_trans (suN_at m n (by omega)) (Nat.le_add_left _ _)
theorem gN_sum {U : Nat} {W : Nat → Int32} {T : Int32} {lo : Nat} (h : WT W T) (hlo : lo < 9) : suN (gN U W T lo) 9 = U := by
  have h1 : suN (gN U W T lo) 9 = suN (fun p => if 0 < W p then pN U W T p else 0) 9 + suN (fun p => if p = lo then U - qN U W T 9 else 0) 9 := suN_add _ _ 9
  rw [h1, suN_q, suN_one, if_pos hlo]
  have := qN_le (U := U) h
  omega
