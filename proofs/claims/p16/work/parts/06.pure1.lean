/-! what the class keeps of its net: pure -/
/-- a neighbour is told: its weight, and where that is above 0 its place among the neighbours -/
def tnI (I : SI) (n o : Nat) (x : Int32) (k : Nat) : SI :=
  if 0 < x ∧ k < 9 then st2 (st2 (st2 (st2 I (9 + n) o x) (19 + n) k (nI o)) 28 n (nI (k + 1))) 29 n ((st2 (st2 (st2 I (9 + n) o x) (19 + n) k (nI o)) 28 n (nI (k + 1))) 29 n + x)
  else st2 I (9 + n) o x
theorem i32_nlt {a b : Int32} (h : a ≤ b) : ¬ b < a := fun z => by rw [Int32.lt_iff_toInt_lt] at z; rw [Int32.le_iff_toInt_le] at h; omega
theorem i32_lt {a b : Int32} (h : ¬ a ≤ b) : b < a := by rw [Int32.lt_iff_toInt_lt]; rw [Int32.le_iff_toInt_le] at h; omega
theorem st2_wc {I : SI} {n o : Nat} {x : Int32} (h : n < 9) : st2 I (9 + n) o x 28 n = I 28 n := st2_n I x (by omega)
/-- a loan's weight as it is walked -/
def wOf (I : SI) (r b : Nat) : Int32 := if I 7 b = 2 then 0 else I (3 + r) b
def cntR (I : SI) (r : Nat) : Nat → Nat
  | 0 => 0
  | b + 1 => cntR I r b + (if 0 < wOf I r b then 1 else 0)
def cntB (I : SI) (b : Nat) : Nat → Nat
  | 0 => 0
  | r + 1 => cntB I b r + (if 0 < wOf I r b then 1 else 0)
theorem cntR_le (I : SI) (r b : Nat) : cntR I r b ≤ b := by
  induction b with
  | zero => exact Nat.le_refl _
  | succ b ih => unfold cntR; split <;> omega
theorem cntB_le (I : SI) (b r : Nat) : cntB I b r ≤ r := by
  induction r with
  | zero => exact Nat.le_refl _
  | succ b ih => unfold cntB; split <;> omega
def tw0 (I : SI) : Nat → SI
  | 0 => I
  | j + 1 => st2 (st2 (tw0 I j) 28 j 0) 29 j 0
def twStep (I0 : SI) (r b : Nat) (I : SI) : SI := tnI (tnI I r (4 + b) (wOf I0 r b) (cntR I0 r b)) (4 + b) r (wOf I0 r b) (cntB I0 b r)
def twIn (I0 : SI) (r : Nat) (I : SI) : Nat → SI
  | 0 => I
  | b + 1 => twStep I0 r b (twIn I0 r I b)
def twOut (I0 : SI) : Nat → SI
  | 0 => tw0 I0 9
  | r + 1 => twIn I0 r (twOut I0 r) 5
/-- all that is walked, told anew -/
def tellI (I0 : SI) : SI := twOut I0 4
theorem tnI_far {I : SI} {n o k a : Nat} {x : Int32} (h1 : a ≠ 9 + n) (h2 : a ≠ 19 + n) (h3 : a ≠ 28) (h4 : a ≠ 29) : tnI I n o x k a = I a := by
  unfold tnI
  split
  · rw [st2_k _ _ h4, st2_k _ _ h3, st2_k _ _ h2, st2_k _ _ h1]
  · rw [st2_k _ _ h1]
theorem tnI_c {I : SI} {n o k : Nat} {x : Int32} (hn : n < 9) (hk : k < 9) : tnI I n o x k 28 n = if 0 < x then nI (k + 1) else I 28 n := by
  unfold tnI
  by_cases h : 0 < x
  · rw [if_pos ⟨h, hk⟩, if_pos h, st2_k _ _ (by decide), st2_s]
  · rw [if_neg (fun z => h z.1), if_neg h, st2_wc hn]
theorem tnI_cn {I : SI} {n o k m : Nat} {x : Int32} (hn : n < 9) (hm : m ≠ n) : tnI I n o x k 28 m = I 28 m := by
  unfold tnI
  split
  · rw [st2_n _ _ (by omega), st2_n _ _ (by omega), st2_n _ _ (by omega), st2_n _ _ (by omega)]
  · rw [st2_n _ _ (by omega)]
theorem tw0_far (I : SI) {a : Nat} (h1 : a ≠ 28) (h2 : a ≠ 29) : ∀ j, tw0 I j a = I a
  | 0 => rfl
  | j + 1 => by unfold tw0; rw [st2_k _ _ h2, st2_k _ _ h1, tw0_far I h1 h2 j]
theorem tw0_c (I : SI) {m : Nat} : ∀ j, m < j → tw0 I j 28 m = 0
  | 0, h => absurd h (Nat.not_lt_zero _)
  | j + 1, h => by
    unfold tw0
    rw [st2_k _ _ (by decide)]
    by_cases e : m = j
    · subst e; rw [st2_s]
    · rw [st2_n _ _ (by omega), tw0_c I j (by omega)]
/-- at (r, b): loans and bars as they were, counts so far -/
def twInv (I0 : SI) (r b : Nat) (I : SI) : Prop := (∀ a, a < 9 → I a = I0 a) ∧ I 28 r = nI (cntR I0 r b) ∧ (∀ r', r < r' → r' < 4 → I 28 r' = nI 0) ∧ (∀ b', b' < 5 → I 28 (4 + b') = nI (cntB I0 b' (if b' < b then r + 1 else r)))
theorem twInv_step {I0 I : SI} {r b : Nat} (hr : r < 4) (hb : b < 5) (h : twInv I0 r b I) : twInv I0 r (b + 1) (twStep I0 r b I) := by
  obtain ⟨h1, h2, h3, h4⟩ := h
  have c1 : cntR I0 r b < 9 := Nat.lt_of_le_of_lt (cntR_le _ _ _) (by omega)
  have c2 : cntB I0 b r < 9 := Nat.lt_of_le_of_lt (cntB_le _ _ _) (by omega)
  refine ⟨fun a ha => ?_, ?_, fun r' q1 q2 => ?_, fun b' hb' => ?_⟩
  · unfold twStep
    rw [tnI_far (by omega) (by omega) (by omega) (by omega), tnI_far (by omega) (by omega) (by omega) (by omega), h1 a ha]
  · unfold twStep
    rw [tnI_cn (by omega) (by omega), tnI_c (by omega) c1, h2]
    show _ = nI (cntR I0 r b + (if 0 < wOf I0 r b then 1 else 0))
    split <;> rfl
  · unfold twStep
    rw [tnI_cn (by omega) (by omega), tnI_cn (by omega) (by omega), h3 r' q1 q2]
  · unfold twStep
    by_cases e : b' = b
    · subst e
      rw [tnI_c (by omega) c2, tnI_cn (by omega) (by omega), h4 b' hb', if_neg (Nat.lt_irrefl b'), if_pos (Nat.lt_succ_self b')]
      show _ = nI (cntB I0 b' r + (if 0 < wOf I0 r b' then 1 else 0))
      split <;> rfl
    · rw [tnI_cn (by omega) (by omega), tnI_cn (by omega) (by omega), h4 b' hb']
      by_cases q : b' < b
      · rw [if_pos q, if_pos (by omega)]
      · rw [if_neg q, if_neg (by omega)]
theorem twInv_in {I0 I : SI} {r : Nat} (hr : r < 4) (h : twInv I0 r 0 I) : ∀ b, b ≤ 5 → twInv I0 r b (twIn I0 r I b)
  | 0, _ => h
  | b + 1, hb => twInv_step hr (by omega) (twInv_in hr h b (by omega))
theorem twInv_out (I0 : SI) : ∀ r, r < 4 → twInv I0 r 0 (twOut I0 r)
  | 0, _ => ⟨fun a ha => tw0_far I0 (by omega) (by omega) 9, tw0_c I0 9 (by omega), fun r' _ q => tw0_c I0 9 (by omega), fun b' q => (tw0_c I0 9 (by omega)).trans (by rw [if_neg (by omega)]; rfl)⟩
  | r + 1, hr => by
    have h := twInv_in (by omega) (twInv_out I0 r (by omega)) 5 (by omega)
    obtain ⟨h1, h2, h3, h4⟩ := h
    refine ⟨h1, h3 (r + 1) (by omega) hr, fun r' q1 q2 => h3 r' (by omega) q2, fun b' q => (h4 b' q).trans ?_⟩
    rw [if_pos q, if_neg (by omega)]
/-- what the walk of the loops needs at (r, b) -/
theorem tw_at (I0 : SI) {r b : Nat} (hr : r < 4) (hb : b ≤ 5) : twInv I0 r b (twIn I0 r (twOut I0 r) b) := twInv_in hr (twInv_out I0 r hr) b hb
