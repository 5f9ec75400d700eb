/-! the reference's settling, beginning, mending: pure -/
def runM (lo : Nat → Nat → Nat) (v : Nat) : Nat → SI → SJ → Option (SI × SJ)
  | 0, I, J => if nxF J v (I 102 3) 9 0 = -1 then some (I, J) else none
  | f + 1, I, J => if nxF J v (I 102 3) 9 0 = -1 then some (I, J) else runM lo v f (pushMI I) (pushM I lo J v (nxF J v (I 102 3) 9 0).toNatClampNeg)
theorem nxF_or1 {J : SJ} {v : Nat} {bd : Int32} : ∀ t j, nxF J v bd t j = -1 ∨ ∃ n, j ≤ n ∧ n < j + t ∧ nxF J v bd t j = nI n
  | 0, _ => Or.inl rfl
  | t + 1, j => by
    unfold nxF
    by_cases h : unM J v j bd = true
    · rw [if_pos h]; exact Or.inr ⟨j, Nat.le_refl _, by omega, rfl⟩
    · rw [if_neg h]
      rcases nxF_or1 (J := J) (v := v) (bd := bd) t (j + 1) with q | ⟨n, q1, q2, q3⟩
      · exact Or.inl q
      · exact Or.inr ⟨n, by omega, by omega, q3⟩
theorem nxF_or (J : SJ) (v : Nat) (bd : Int32) : nxF J v bd 9 0 = -1 ∨ ∃ n, n < 9 ∧ nxF J v bd 9 0 = nI n := by
  rcases nxF_or1 (J := J) (v := v) (bd := bd) 9 0 with q | ⟨n, q1, q2, q3⟩
  · exact Or.inl q
  · exact Or.inr ⟨n, by omega, q3⟩
theorem loM_102 {I : SI} {f : Nat} {x : Int32} (n m : Nat) : loM (st2 I 102 f x) n m = loM I n m := by
  unfold loM loR
  rw [st2_k _ _ (show 104 ≠ 102 by decide), st2_k _ _ (show 103 ≠ 102 by decide)]
theorem alM_102 {I : SI} {f : Nat} {x : Int32} (n : Nat) : ∀ m, alM (st2 I 102 f x) n m = alM I n m
  | 0 => rfl
  | m + 1 => by unfold alM; rw [alM_102 n m, loM_102]
theorem fromM_102 {I : SI} {f : Nat} {x : Int32} (v n m : Nat) : fromM (st2 I 102 f x) v n m = fromM I v n m := by
  unfold fromM allM
  rw [alM_102, loM_102]
theorem RefOK_102 {I : SI} {f : Nat} {x : Int32} {lo : Nat → Nat → Nat} (h : RefOK I lo) : RefOK (st2 I 102 f x) lo := fun v n hv hn => ⟨(h v n hv hn).1, by rw [fromM_102]; exact (h v n hv hn).2.1, fun k hk => by rw [fromM_102]; exact (h v n hv hn).2.2 k hk⟩
def SettOK (lo : Nat → Nat → Nat) (Is : Nat → SI) (Js : Nat → SJ) : Prop := ∀ v, v < 4 → RefOK (Is v) lo ∧ ∃ f, runM lo v f (Is v) (Js v) = some (Is (v + 1), Js (v + 1))
def bm1 (J : SJ) : Nat → SJ
  | 0 => J
  | k + 1 => st2 (bm1 J k) 107 k 0
def bm2 (J : SJ) : Nat → SJ
  | 0 => J
  | k + 1 => st2 (st2 (bm2 J k) 106 k 0) 105 k (if k % 9 = k / 9 then 1000000 else 0)
def beginM (J : SJ) : SJ := bm2 (bm1 J 324) 36
def tkM (J : SJ) (v n : Nat) : Nat → Int64 × SJ
  | 0 => (0, J)
  | o + 1 => ((tkM J v n o).1 + (tkM J v n o).2 107 (81 * v + 9 * n + o), st2 (st2 (tkM J v n o).2 105 (9 * v + o) ((tkM J v n o).2 105 (9 * v + o) - (tkM J v n o).2 107 (81 * v + 9 * n + o))) 107 (81 * v + 9 * n + o) 0)
def mdM (I : SI) (lo : Nat → Nat → Nat) (J : SJ) (v : Nat) : Nat → SJ
  | 0 => J
  | n + 1 => sendM I (tkM (mdM I lo J v n) v n 9).2 v n (tkM (mdM I lo J v n) v n 9).1 (lo v n)
def mdA (I : SI) (lo : Nat → Nat → Nat) (J : SJ) : Nat → SJ
  | 0 => J
  | v + 1 => mdM I lo (mdA I lo J v) v 9
