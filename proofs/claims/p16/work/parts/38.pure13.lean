/-! fading, side by side -/
def fdInv (I1 I2 : SI) (s f : SI × Int32) : Prop := s.2 = f.2 ∧ (∀ r b, r < 4 → b < 5 → s.1 (3 + r) b = f.1 103 (5 * r + b)) ∧ (∀ a, (a < 3 ∨ 7 ≤ a) → s.1 a = I1 a) ∧ (∀ a, a ≠ 103 → f.1 a = (st2 I2 102 14 0) a)
theorem fd_step {I1 I2 : SI} {s f : SI × Int32} {r b : Nat} (hr : r < 4) (hb : b < 5) (h : fdInv I1 I2 s f) :
    fdInv I1 I2 (st2 s.1 (3 + r) b (s.1 (3 + r) b / 2), s.2 + (if 0 < st2 s.1 (3 + r) b (s.1 (3 + r) b / 2) (3 + r) b then 1 else 0)) (st2 f.1 103 (5 * r + b) (f.1 103 (5 * r + b) / 2), f.2 + (if 0 < st2 f.1 103 (5 * r + b) (f.1 103 (5 * r + b) / 2) 103 (5 * r + b) then 1 else 0)) := by
  obtain ⟨h1, h2, h3, h4⟩ := h
  refine ⟨?_, fun r' b' q1 q2 => ?_, fun a q => ?_, fun a q => ?_⟩
  · dsimp only
    rw [st2_s, st2_s, h1, h2 r b hr hb]
  · dsimp only
    by_cases e : r' = r ∧ b' = b
    · rw [e.1, e.2, st2_s, st2_s, h2 r b hr hb]
    · rw [st2_n _ _ (by omega), st2_n _ _ (by omega)]; exact h2 r' b' q1 q2
  · dsimp only
    rw [st2_k _ _ (by omega)]; exact h3 a q
  · dsimp only
    rw [st2_k _ _ q]; exact h4 a q
theorem fd_in {I1 I2 : SI} {s : SI × Int32} {r : Nat} (hr : r < 4) (h : fdInv I1 I2 s (fdM I2 (5 * r))) : ∀ b, b ≤ 5 → fdInv I1 I2 (hvIn r s b) (fdM I2 (5 * r + b))
  | 0, _ => h
  | b + 1, hb => fd_step hr (by omega) (fd_in hr h b (by omega))
theorem fd_out {I1 I2 : SI} (hR : RelN I1 I2) : ∀ r, r ≤ 4 → fdInv I1 I2 (hvOut I1 r) (fdM I2 (5 * r))
  | 0, _ => ⟨rfl, fun r b hr hb => (hR.1 r b hr hb).trans (show I2 103 (5 * r + b) = st2 I2 102 14 0 103 (5 * r + b) from (st2_n _ _ (by omega)).symm), fun _ _ => rfl, fun _ _ => rfl⟩
  | r + 1, hr => fd_in (by omega) (fd_out hR r (by omega)) 5 (Nat.le_refl _)
/-- loans halved on both sides -/
theorem fade_rel {I1 I2 : SI} (hR : RelN I1 I2) : (hvOut I1 4).2 = (fdM I2 20).2 ∧ RelN (hvOut I1 4).1 (fdM I2 20).1 ∧ (∀ a, (a < 3 ∨ 7 ≤ a) → (hvOut I1 4).1 a = I1 a) ∧ (∀ a, a ≠ 103 → (fdM I2 20).1 a = (st2 I2 102 14 0) a) := by
  obtain ⟨h1, h2, h3, h4⟩ := fd_out hR 4 (Nat.le_refl _)
  refine ⟨h1, ⟨h2, fun b hb => ?_⟩, h3, h4⟩
  show (hvOut I1 4).1 7 b = (fdM I2 20).1 104 b
  rw [h3 7 (by omega)]
  exact (hR.2 b hb).trans ((congrFun (h4 104 (by omega)) b).trans (st2_n _ _ (by omega))).symm
/-- a loan told on both sides -/
theorem loan_rel {I1 I2 : SI} {r k : Nat} {x : Int32} (hR : RelN I1 I2) (hr : r < 4) (hk : k < 5) : RelN (st2 I1 (3 + r) k x) (st2 (st2 I2 102 14 0) 103 (5 * r + k) x) := by
  refine ⟨fun r' k' q1 q2 => ?_, fun b hb => ?_⟩
  · by_cases e : r' = r ∧ k' = k
    · rw [e.1, e.2, st2_s, st2_s]
    · rw [st2_n _ _ (by omega), st2_n _ _ (by omega), st2_n _ _ (by omega)]; exact hR.1 r' k' q1 q2
  · rw [st2_n _ _ (by omega), st2_n _ _ (by omega), st2_n _ _ (by omega)]; exact hR.2 b hb
theorem bar_rel {I1 I2 : SI} {k : Nat} {x : Int32} (hR : RelN I1 I2) (hk : k < 5) : RelN (st2 I1 7 k x) (st2 (st2 I2 102 14 0) 104 k x) := by
  refine ⟨fun r' k' q1 q2 => ?_, fun b hb => ?_⟩
  · rw [st2_n _ _ (by omega), st2_n _ _ (by omega), st2_n _ _ (by omega)]; exact hR.1 r' k' q1 q2
  · by_cases e : b = k
    · rw [e, st2_s, st2_s]
    · rw [st2_n _ _ (by omega), st2_n _ _ (by omega), st2_n _ _ (by omega)]; exact hR.2 b hb
/-- loans keep from 0 to 99 -/
theorem w99_loan {I : SI} {r k : Nat} {x : Int32} (h : W99 I) (hx : 0 ≤ x.toInt ∧ x.toInt ≤ 99) : W99 (st2 I (3 + r) k x) := fun r' k' q1 q2 => by
  by_cases e : r' = r ∧ k' = k
  · rw [e.1, e.2, st2_s]; exact hx
  · rw [st2_n _ _ (by omega)]; exact h r' k' q1 q2
theorem w99_far {I I' : SI} (h : W99 I) (e : ∀ a b, 3 ≤ a → a < 7 → I' a b = I a b) : W99 I' := fun r k q1 q2 => by rw [e _ _ (by omega) (by omega)]; exact h r k q1 q2
/-- the same answer, where both cap at 99 -/
theorem cap_min {I1 I2 : SI} {r k : Nat} {w : Int32} (hR : RelN I1 I2) (hW : W99 I1) (hr : r < 4) (hk : k < 5) (hw : inF w 1 99 = 1) : minW (I1 (3 + r) k + w) = capW ((st2 I2 102 14 0) 103 (5 * r + k) + w) ∧ 0 ≤ (minW (I1 (3 + r) k + w)).toInt ∧ (minW (I1 (3 + r) k + w)).toInt ≤ 99 := by
  rw [st2_n _ _ (by omega), ← hR.1 r k hr hk]
  obtain ⟨a, b⟩ := hW r k hr hk
  have c : 1 ≤ w.toInt ∧ w.toInt ≤ 99 := by
    have e1 : (1 : Int32).toInt = 1 := rfl
    have e2 : (99 : Int32).toInt = 99 := rfl
    unfold inF at hw
    by_cases p : w < 1
    · rw [if_pos p] at hw; exact absurd hw (by decide)
    · rw [if_neg p] at hw
      by_cases q : 99 < w
      · rw [if_pos q] at hw; exact absurd hw (by decide)
      · rw [Int32.lt_iff_toInt_lt] at p q; omega
  have s : (I1 (3 + r) k + w).toInt = (I1 (3 + r) k).toInt + w.toInt := i32_add (by omega) (by omega)
  have e2 : (99 : Int32).toInt = 99 := rfl
  generalize I1 (3 + r) k + w = x at *
  unfold minW capW
  by_cases p : x < 99
  · have p1 : x ≤ 99 := by rw [Int32.lt_iff_toInt_lt] at p; rw [Int32.le_iff_toInt_le]; omega
    rw [if_pos p, if_pos p1]
    rw [Int32.lt_iff_toInt_lt] at p
    exact ⟨rfl, by omega, by omega⟩
  · rw [if_neg p]
    by_cases q : x ≤ 99
    · rw [if_pos q]
      rw [Int32.lt_iff_toInt_lt] at p
      rw [Int32.le_iff_toInt_le] at q
      exact ⟨Int32.toInt_inj.mp (by omega), by decide, by decide⟩
    · rw [if_neg q]; exact ⟨rfl, by decide, by decide⟩
