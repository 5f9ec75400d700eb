/-! a mend makes the rests greater by twice what was sent, at most -/
def seN (J : SJ) (v n : Nat) : Nat := suN (fun o => (J 107 (81 * v + 9 * n + o)).toInt.natAbs) 9
theorem tk_eq {J : SJ} {v n : Nat} (hn : n < 9) : ∀ o, o ≤ 9 → (∀ p, p < 9 → (tkM J v n o).2 105 (9 * v + p) = (if p < o then J 105 (9 * v + p) - J 107 (81 * v + 9 * n + p) else J 105 (9 * v + p))) ∧ (∀ q, (q < 81 * v + 9 * n ∨ 81 * v + 9 * n + o ≤ q) → (tkM J v n o).2 107 q = J 107 q)
  | 0, _ => ⟨fun p _ => by rw [if_neg (Nat.not_lt_zero _)]; rfl, fun _ _ => rfl⟩
  | o + 1, ho => by
    obtain ⟨a, b⟩ := tk_eq (J := J) (v := v) hn o (by omega)
    unfold tkM
    refine ⟨fun p hp => ?_, fun q hq => ?_⟩
    · dsimp only
      rw [st2_n _ _ (by omega)]
      by_cases e : p = o
      · rw [e, st2_s, a o (by omega), if_neg (Nat.lt_irrefl _), if_pos (Nat.lt_succ_self _), b _ (by omega)]
      · rw [st2_n _ _ (by omega), a p hp]
        by_cases z : p < o
        · rw [if_pos z, if_pos (by omega)]
        · rw [if_neg z, if_neg (by omega)]
    · dsimp only
      rw [st2_n _ _ (by omega), st2_n _ _ (by omega)]; exact b q (by omega)
theorem suN_mono {f : Nat → Nat} : ∀ m t, suN f m ≤ suN f (m + t)
  | m, 0 => Nat.le_refl _
  | m, t + 1 => Nat.le_trans (suN_mono m t) (by show _ ≤ f (m + t) + suN f (m + t); exact Nat.le_add_left _ _)
theorem tk_sum {J : SJ} {v n : Nat} (hn : n < 9) (hb : seN J v n ≤ 1000000000000) : ∀ o, o ≤ 9 → (tkM J v n o).1.toInt.natAbs ≤ suN (fun o => (J 107 (81 * v + 9 * n + o)).toInt.natAbs) o
  | 0, _ => by show (0 : Int64).toInt.natAbs ≤ 0; decide
  | o + 1, ho => by
    have ih := tk_sum hn hb o (by omega)
    have b := (tk_eq (J := J) (v := v) hn o (by omega)).2 (81 * v + 9 * n + o) (by omega)
    have m1 := suN_mono (f := fun o => (J 107 (81 * v + 9 * n + o)).toInt.natAbs) (o + 1) (8 - o)
    rw [show o + 1 + (8 - o) = 9 from by omega] at m1
    have e : suN (fun o => (J 107 (81 * v + 9 * n + o)).toInt.natAbs) (o + 1) = (J 107 (81 * v + 9 * n + o)).toInt.natAbs + suN (fun o => (J 107 (81 * v + 9 * n + o)).toInt.natAbs) o := rfl
    unfold seN at hb
    unfold tkM
    dsimp only
    rw [b, i64_add (by omega) (by omega)]
    omega
theorem tk_rN {J : SJ} {v n : Nat} (hn : n < 9) (hb : seN J v n ≤ 1000000000000) (hr : rN J v ≤ 100000000000000) : rN (tkM J v n 9).2 v ≤ rN J v + seN J v n := by
  obtain ⟨a, -⟩ := tk_eq (J := J) (v := v) hn 9 (Nat.le_refl _)
  have h : rN (tkM J v n 9).2 v ≤ suN (fun p => (J 105 (9 * v + p)).toInt.natAbs + (J 107 (81 * v + 9 * n + p)).toInt.natAbs) 9 := by
    refine suN_le 9 (fun p hp => ?_)
    have h1 : (J 105 (9 * v + p)).toInt.natAbs ≤ rN J v := suN_at (f := fun p => (J 105 (9 * v + p)).toInt.natAbs) 9 p hp
    have h2 : (J 107 (81 * v + 9 * n + p)).toInt.natAbs ≤ seN J v n := suN_at (f := fun p => (J 107 (81 * v + 9 * n + p)).toInt.natAbs) 9 p hp
    rw [a p hp, if_pos hp, i64_sub (by omega) (by omega)]
    omega
  rw [suN_add] at h
  exact h
theorem send_rN {I : SI} {J : SJ} {v n lo : Nat} {u : Int64} (hv : v < 4) (hn : n < 9) (hlo : lo < 9) (hW : WT (fromM I v n) (suM I n)) (hu : u.toInt.natAbs ≤ 1000000000000) (hr : rN J v ≤ 100000000000000) : rN (sendM I J v n u lo) v ≤ rN J v + u.toInt.natAbs := by
  obtain ⟨c1, -, -⟩ := sendM_eq (I := I) (J := J) (u := u) hv hn hlo
  have h : rN (sendM I J v n u lo) v ≤ suN (fun p => (J 105 (9 * v + p)).toInt.natAbs + gN u.toInt.natAbs (fromM I v n) (suM I n) lo p) 9 := by
    refine suN_le 9 (fun p hp => ?_)
    obtain ⟨g1, g2⟩ := gM_int (lo := lo) hW hu hp
    have h1 : (J 105 (9 * v + p)).toInt.natAbs ≤ rN J v := suN_at (f := fun p => (J 105 (9 * v + p)).toInt.natAbs) 9 p hp
    have g3 : (gM I v n u lo p).toInt.natAbs = gN u.toInt.natAbs (fromM I v n) (suM I n) lo p := by
      rw [g1]; unfold sgI; split <;> omega
    rw [c1 p hp, i64_add (by omega) (by omega)]
    omega
  rw [suN_add, gN_sum hW hlo] at h
  exact h
/-- of node n's own row alone a mend's first n steps change nothing -/
theorem md_row {I0 I2 : SI} {J : SJ} {v : Nat} (hv : v < 4) : ∀ n, n ≤ 9 → ∀ q, 81 * v + 9 * n ≤ q → mdM I2 (loF I0) J v n 107 q = J 107 q
  | 0, _, _, _ => rfl
  | n + 1, hn, q, hq => by
    unfold mdM
    rw [(sendM_eq hv (by omega : n < 9) (lo_9 hv)).2.2 107 q (by omega) (by omega), (tk_eq (v := v) (by omega : n < 9) 9 (Nat.le_refl _)).2 q (by omega)]
    exact md_row hv n (by omega) q (by omega)
theorem md_rN {I0 I2 : SI} {J : SJ} {v : Nat} (hR : RelN I0 I2) (hW : W99 I0) (hv : v < 4) (hb : rN J v + 2 * suN (seN J v) 9 ≤ 1000000000000) : ∀ n, n ≤ 9 → rN (mdM I2 (loF I0) J v n) v ≤ rN J v + 2 * suN (seN J v) n
  | 0, _ => Nat.le_refl _
  | n + 1, hn => by
    have ih := md_rN hR hW hv hb n (by omega)
    have e : suN (seN J v) (n + 1) = seN J v n + suN (seN J v) n := rfl
    have m1 := suN_mono (f := seN J v) (n + 1) (8 - n)
    rw [show n + 1 + (8 - n) = 9 from by omega] at m1
    have hs : seN (mdM I2 (loF I0) J v n) v n = seN J v n := by
      unfold seN
      congr 1
      funext o
      rw [md_row hv n (by omega) _ (by omega)]
    have t1 := tk_sum (J := mdM I2 (loF I0) J v n) (v := v) (by omega : n < 9) (by rw [hs]; omega) 9 (Nat.le_refl _)
    have t1' : (tkM (mdM I2 (loF I0) J v n) v n 9).1.toInt.natAbs ≤ seN J v n := by rw [← hs]; exact t1
    have t2 := tk_rN (J := mdM I2 (loF I0) J v n) (v := v) (by omega : n < 9) (by rw [hs]; omega) (by omega)
    rw [hs] at t2
    have t3 := send_rN (I := I2) (J := (tkM (mdM I2 (loF I0) J v n) v n 9).2) (u := (tkM (mdM I2 (loF I0) J v n) v n 9).1) hv (by omega : n < 9) (lo_9 (I0 := I0) (n := n) hv) (wt_of hR hW hv (by omega)) (by omega) (by omega)
    unfold mdM
    omega
