/-! the reference: pure -/
def loR (I : SI) (r k : Nat) : Int32 := if 3 < r ∨ k < 4 ∨ I 104 (k - 4) = 2 then 0 else I 103 (5 * r + (k - 4))
def loM (I : SI) (n m : Nat) : Int32 := if n < m then loR I n m else loR I m n
def alM (I : SI) (n : Nat) : Nat → Int32
  | 0 => 0
  | m + 1 => alM I n m + loM I n m
def allM (I : SI) (n : Nat) : Int32 := alM I n 9
def fromM (I : SI) (v n m : Nat) : Int32 := if 0 < allM I n then loM I n m else if m = v then 1 else 0
def suM (I : SI) (n : Nat) : Int32 := if 0 < allM I n then allM I n else 1
theorem wn_sub4lt {m : Nat} (h : m < 9) : nI m - 4 < 0 ↔ m < 4 := by
  rw [Int32.lt_iff_toInt_lt, show (4 : Int32) = nI 4 from rfl, pk_sub_toInt (by omega) (by omega), show (0 : Int32).toInt = 0 from rfl]
  omega
theorem wn_sub4 {m : Nat} (h : 4 ≤ m) : nI m - 4 = nI (m - 4) := pk_sub (a := m) (b := 4) h






/-- what a counter that falls to -1 holds -/
def dn : Nat → Int32
  | 0 => -1
  | r + 1 => nI r
theorem dn_dec (r : Nat) : nI r + Int32.ofInt (-1) = dn r := by
  cases r with
  | zero => decide
  | succ r => exact pk_m1 r
theorem suM_ne (I : SI) (n : Nat) : ¬ suM I n = 0 := by
  intro z
  unfold suM at z
  by_cases h : 0 < allM I n
  · rw [if_pos h] at z
    rw [z] at h
    exact absurd h (by decide)
  · rw [if_neg h] at z
    exact absurd z (by decide)
/-- units, the lowest neighbour so far, the rows -/
def sdPt (I : SI) (v n : Nat) (u : Int64) (k : Nat) : Int64 := u * (fromM I v n k).toInt64 / (suM I n).toInt64
def sdJ (J : SJ) (v n k : Nat) (x : Int64) : SJ := st2 (st2 J 105 (9 * v + k) (J 105 (9 * v + k) + x)) 107 (81 * v + 9 * n + k) ((st2 J 105 (9 * v + k) (J 105 (9 * v + k) + x)) 107 (81 * v + 9 * n + k) + x)
def sdD (I : SI) (v n : Nat) (u : Int64) : Nat → Int64 → Int32 → SJ → Int64 × Int32 × SJ
  | 0, lf, lw, J => (lf, lw, J)
  | r + 1, lf, lw, J => if 0 < fromM I v n r then sdD I v n u r (lf - sdPt I v n u r) (nI r) (sdJ J v n r (sdPt I v n u r)) else sdD I v n u r lf lw J
/-- the lowest neighbour of a node -/
def LowOK (I : SI) (v n lo : Nat) : Prop := lo < 9 ∧ 0 < fromM I v n lo ∧ ∀ k, k < lo → ¬ 0 < fromM I v n k
theorem sdD_low {I : SI} {v n lo : Nat} {u : Int64} (h : LowOK I v n lo) : ∀ (r : Nat) (lf : Int64) (lw : Int32) (J : SJ), (lo < r ∨ lw = nI lo) → (sdD I v n u r lf lw J).2.1 = nI lo
  | 0, lf, lw, J, q => q.elim (fun z => absurd z (Nat.not_lt_zero _)) (fun z => z)
  | r + 1, lf, lw, J, q => by
    unfold sdD
    by_cases h1 : 0 < fromM I v n r
    · rw [if_pos h1]
      by_cases e : r = lo
      · exact sdD_low h r _ _ _ (Or.inr (by rw [e]))
      · by_cases e2 : lo < r
        · exact sdD_low h r _ _ _ (Or.inl e2)
        · exact absurd h1 (h.2.2 r (by omega))
    · rw [if_neg h1]
      refine sdD_low h r _ _ _ ?_
      rcases q with z | z
      · by_cases e : r = lo
        · subst e; exact absurd h.2.1 h1
        · exact Or.inl (by omega)
      · exact Or.inr z
def sendM (I : SI) (J : SJ) (v n : Nat) (u : Int64) (lo : Nat) : SJ := sdJ (sdD I v n u 9 u (-1) J).2.2 v n lo (sdD I v n u 9 u (-1) J).1

/-- each node's lowest neighbour -/
def RefOK (I : SI) (lo : Nat → Nat → Nat) : Prop := ∀ v n, v < 4 → n < 9 → LowOK I v n (lo v n)
def landM (I : SI) (J : SJ) (v n : Nat) : Int64 := J 105 (9 * v + n) * ((100 - I 102 2).toInt64) / 100
def pushM (I : SI) (lo : Nat → Nat → Nat) (J : SJ) (v n : Nat) : SJ :=
  sendM I (st2 (st2 J 105 (9 * v + n) 0) 106 (9 * v + n) ((st2 J 105 (9 * v + n) 0) 106 (9 * v + n) + landM I J v n)) v n (J 105 (9 * v + n) - landM I J v n) (lo v n)
def pushMI (I : SI) : SI := st2 I 102 4 (I 102 4 + 1)
def unM (J : SJ) (v n : Nat) (bd : Int32) : Bool := decide (bd.toInt64 ≤ J 105 (9 * v + n)) || decide (J 105 (9 * v + n) ≤ (-bd).toInt64)
def nxF (J : SJ) (v : Nat) (bd : Int32) : Nat → Nat → Int32
  | 0, _ => -1
  | t + 1, j => if unM J v j bd then nI j else nxF J v bd t (j + 1)
theorem nxF_y {J : SJ} {v : Nat} {bd : Int32} {t j : Nat} (h : bd.toInt64 ≤ J 105 (9 * v + j) ∨ J 105 (9 * v + j) ≤ (-bd).toInt64) : nxF J v bd (t + 1) j = nI j := by
  unfold nxF
  rw [if_pos]
  unfold unM
  rcases h with h | h <;> simp [h]
theorem nxF_n {J : SJ} {v : Nat} {bd : Int32} {t j : Nat} (h1 : ¬ bd.toInt64 ≤ J 105 (9 * v + j)) (h2 : ¬ J 105 (9 * v + j) ≤ (-bd).toInt64) : nxF J v bd (t + 1) j = nxF J v bd t (j + 1) := by
  rw [nxF]
  rw [if_neg]
  unfold unM
  simp [h1, h2]



