/-! sending: class's and reference's -/
theorem l_zero (x : Int64) : x + 0 = x := Int64.add_zero x
theorem l_ass (a b d : Int64) : a - b - d = a - (b + d) := by grind
theorem l_ass2 (a b d : Int64) : a - (b + d) = a - d - b := by grind
theorem l_can {a b d e u : Int64} (h1 : a + b = u) (h2 : d + (e + b) = u) : a = e + d := by grind
def ptW (W : Nat → Int32) (T : Int32) (u : Int64) (o : Nat) : Int64 := u * (W o).toInt64 / T.toInt64
def qW (W : Nat → Int32) (T : Int32) (u : Int64) : Nat → Int64
  | 0 => 0
  | m + 1 => (if 0 < W m then ptW W T u m else 0) + qW W T u m
/-- what the reference gives below r -/
def gW (W : Nat → Int32) (T : Int32) (u : Int64) (r p : Nat) : Int64 := if p < r ∧ 0 < W p then ptW W T u p else 0
theorem sdD_eq {I : SI} {v n : Nat} {u : Int64} (hv : v < 4) (hn : n < 9) : ∀ (r : Nat) (lf : Int64) (lw : Int32) (J : SJ), r ≤ 9 →
    (sdD I v n u r lf lw J).1 = lf - qW (fromM I v n) (suM I n) u r ∧
    (∀ p, p < 9 → (sdD I v n u r lf lw J).2.2 105 (9 * v + p) = J 105 (9 * v + p) + gW (fromM I v n) (suM I n) u r p) ∧
    (∀ p, p < 9 → (sdD I v n u r lf lw J).2.2 107 (81 * v + 9 * n + p) = J 107 (81 * v + 9 * n + p) + gW (fromM I v n) (suM I n) u r p) ∧
    (∀ a q, (a = 105 → q < 9 * v ∨ 9 * v + 9 ≤ q) → (a = 107 → q < 81 * v + 9 * n ∨ 81 * v + 9 * n + 9 ≤ q) → (sdD I v n u r lf lw J).2.2 a q = J a q)
  | 0, lf, lw, J, _ => by
    unfold sdD
    refine ⟨(Int64.sub_zero lf).symm, fun p _ => ?_, fun p _ => ?_, fun a q _ _ => rfl⟩ <;> (unfold gW; rw [if_neg (fun z => absurd z.1 (Nat.not_lt_zero _)), l_zero])
  | r + 1, lf, lw, J, h => by
    unfold sdD
    by_cases p0 : 0 < fromM I v n r
    · rw [if_pos p0]
      obtain ⟨a1, a2, a3, a4⟩ := sdD_eq (I := I) (u := u) hv hn r (lf - sdPt I v n u r) (nI r) (sdJ J v n r (sdPt I v n u r)) (by omega)
      have eP : sdPt I v n u r = ptW (fromM I v n) (suM I n) u r := rfl
      refine ⟨?_, fun p hp => ?_, fun p hp => ?_, fun a q q1 q2 => ?_⟩
      · rw [a1, eP]
        conv => rhs; unfold qW
        rw [if_pos p0, l_ass]
      · rw [a2 p hp]
        unfold sdJ
        rw [st2_n _ _ (by omega)]
        by_cases e : p = r
        · subst e
          rw [st2_s, eP]
          unfold gW
          rw [if_neg (fun z => absurd z.1 (Nat.lt_irrefl _)), if_pos ⟨Nat.lt_succ_self _, p0⟩, l_zero]
        · rw [st2_n _ _ (by omega)]
          unfold gW
          by_cases g : p < r ∧ 0 < fromM I v n p
          · rw [if_pos g, if_pos ⟨by omega, g.2⟩]
          · rw [if_neg g, if_neg (fun z => g ⟨by omega, z.2⟩)]
      · rw [a3 p hp]
        unfold sdJ
        by_cases e : p = r
        · subst e
          rw [st2_s, eP, st2_n _ _ (by omega)]
          unfold gW
          rw [if_neg (fun z => absurd z.1 (Nat.lt_irrefl _)), if_pos ⟨Nat.lt_succ_self _, p0⟩, l_zero]
        · rw [st2_n _ _ (by omega), st2_n _ _ (by omega)]
          unfold gW
          by_cases g : p < r ∧ 0 < fromM I v n p
          · rw [if_pos g, if_pos ⟨by omega, g.2⟩]
          · rw [if_neg g, if_neg (fun z => g ⟨by omega, z.2⟩)]
      · rw [a4 a q q1 q2]
        unfold sdJ
        rw [st2_n _ _ (by omega), st2_n _ _ (by omega)]
    · rw [if_neg p0]
      obtain ⟨a1, a2, a3, a4⟩ := sdD_eq (I := I) (u := u) hv hn r lf lw J (by omega)
      have eG : ∀ p, gW (fromM I v n) (suM I n) u (r + 1) p = gW (fromM I v n) (suM I n) u r p := fun p => by
        unfold gW
        by_cases g : p < r ∧ 0 < fromM I v n p
        · rw [if_pos g, if_pos ⟨by omega, g.2⟩]
        · rw [if_neg g, if_neg (fun z => g ⟨by have : p ≠ r := fun e => p0 (by rw [← e]; exact z.2)
                                               omega, z.2⟩)]
      refine ⟨?_, fun p hp => by rw [eG]; exact a2 p hp, fun p hp => by rw [eG]; exact a3 p hp, a4⟩
      rw [a1]
      conv => rhs; unfold qW
      rw [if_neg p0, Int64.zero_add]
/-- the reference's gift to p -/
def gM (I : SI) (v n : Nat) (u : Int64) (lo p : Nat) : Int64 := gW (fromM I v n) (suM I n) u 9 p + (if p = lo then u - qW (fromM I v n) (suM I n) u 9 else 0)
theorem sendM_eq {I : SI} {J : SJ} {v n lo : Nat} {u : Int64} (hv : v < 4) (hn : n < 9) (hlo : lo < 9) :
    (∀ p, p < 9 → sendM I J v n u lo 105 (9 * v + p) = J 105 (9 * v + p) + gM I v n u lo p) ∧
    (∀ p, p < 9 → sendM I J v n u lo 107 (81 * v + 9 * n + p) = J 107 (81 * v + 9 * n + p) + gM I v n u lo p) ∧
    (∀ a q, (a = 105 → q < 9 * v ∨ 9 * v + 9 ≤ q) → (a = 107 → q < 81 * v + 9 * n ∨ 81 * v + 9 * n + 9 ≤ q) → sendM I J v n u lo a q = J a q) := by
  obtain ⟨a1, a2, a3, a4⟩ := sdD_eq (I := I) (u := u) hv hn 9 u (-1) J (Nat.le_refl _)
  unfold sendM
  refine ⟨fun p hp => ?_, fun p hp => ?_, fun a q q1 q2 => ?_⟩
  · unfold sdJ gM
    rw [st2_n _ _ (by omega)]
    by_cases e : p = lo
    · subst e
      rw [st2_s, a2 p hp, a1, if_pos rfl, Int64.add_assoc]
    · rw [st2_n _ _ (by omega), a2 p hp, if_neg e, l_zero]
  · unfold sdJ gM
    by_cases e : p = lo
    · subst e
      rw [st2_s, st2_n _ _ (by omega), a3 p hp, a1, if_pos rfl, Int64.add_assoc]
    · rw [st2_n _ _ (by omega), st2_n _ _ (by omega), a3 p hp, if_neg e, l_zero]
  · unfold sdJ
    rw [st2_n _ _ (by omega), st2_n _ _ (by omega), a4 a q q1 q2]
