/-! what is sent grows by ten times what lands, at most -/
def ssN (J : SJ) (v : Nat) : Nat := suN (seN J v) 9
/-- a push: the rests are less by what lands, 10 at least -/
theorem push_dec2 {I : SI} {J : SJ} {v n : Nat} {lo : Nat → Nat → Nat} (hv : v < 4) (hn : n < 9) (hlo : lo v n < 9) (hW : WT (fromM I v n) (suM I n)) (h1 : 50 ≤ (I 102 2).toInt) (h2 : (I 102 2).toInt ≤ 90) (hS : rN J v ≤ 1000000000000) (hr : 100 ≤ (J 105 (9 * v + n)).toInt.natAbs) (hE : ssN J v ≤ 100000000000000) :
    ∃ k, 10 ≤ k ∧ rN (pushM I lo J v n) v + k ≤ rN J v ∧ ssN (pushM I lo J v n) v ≤ ssN J v + 10 * k := by
  have hrS : (J 105 (9 * v + n)).toInt.natAbs ≤ rN J v := suN_at (f := fun p => (J 105 (9 * v + p)).toInt.natAbs) 9 n hn
  obtain ⟨k, hl, hk⟩ := land_int (J := J) (v := v) (n := n) h1 h2 (by omega)
  have hk1 : 10 ≤ k := by
    rw [hk, Nat.le_div_iff_mul_le (by decide)]
    have : 10 ≤ (100 - (I 102 2).toInt).toNat := by omega
    exact Nat.le_trans (by decide : 10 * 100 ≤ 100 * 10) (Nat.mul_le_mul hr this)
  have hk2 : k ≤ (J 105 (9 * v + n)).toInt.natAbs := by
    rw [hk]
    refine Nat.div_le_of_le_mul ?_
    rw [Nat.mul_comm]
    exact Nat.mul_le_mul_right _ (by omega)
  have hk3 : (J 105 (9 * v + n)).toInt.natAbs * 10 / 100 ≤ k := by
    rw [hk]
    exact Nat.div_le_div_right (Nat.mul_le_mul_left _ (by omega))
  have hsg := sgI_abs (J 105 (9 * v + n)).toInt
  generalize hL : landM I J v n = L at *
  have eu : (J 105 (9 * v + n) - L).toInt = (J 105 (9 * v + n)).toInt - L.toInt := by
    apply i64_sub
    · rw [hl]; unfold sgI; split <;> omega
    · rw [hl]; unfold sgI; split <;> omega
  have eU : (J 105 (9 * v + n) - L).toInt.natAbs + k = (J 105 (9 * v + n)).toInt.natAbs := by
    rw [eu, hl]; unfold sgI; split <;> omega
  generalize hu : J 105 (9 * v + n) - L = u at *
  obtain ⟨c1, c2, c3⟩ := sendM_eq (I := I) (J := st2 (st2 J 105 (9 * v + n) 0) 106 (9 * v + n) ((st2 J 105 (9 * v + n) 0) 106 (9 * v + n) + L)) (u := u) hv hn hlo
  have eP : pushM I lo J v n = sendM I (st2 (st2 J 105 (9 * v + n) 0) 106 (9 * v + n) ((st2 J 105 (9 * v + n) 0) 106 (9 * v + n) + L)) v n u (lo v n) := by
    unfold pushM
    rw [hL, hu]
  rw [eP]
  have hsum := gN_sum (U := u.toInt.natAbs) hW hlo
  have hcut := suN_cut (f := fun p => (J 105 (9 * v + p)).toInt.natAbs) (n := n) 9
  rw [if_pos hn] at hcut
  have hle : suN (fun p => (sendM I (st2 (st2 J 105 (9 * v + n) 0) 106 (9 * v + n) ((st2 J 105 (9 * v + n) 0) 106 (9 * v + n) + L)) v n u (lo v n) 105 (9 * v + p)).toInt.natAbs) 9
      ≤ suN (fun p => (if p = n then 0 else (J 105 (9 * v + p)).toInt.natAbs) + gN u.toInt.natAbs (fromM I v n) (suM I n) (lo v n) p) 9 := by
    refine suN_le 9 (fun p hp => ?_)
    obtain ⟨g1, g2⟩ := gM_int (lo := lo v n) hW (by omega : u.toInt.natAbs ≤ 1000000000000) hp
    have hpS : (J 105 (9 * v + p)).toInt.natAbs ≤ rN J v := suN_at (f := fun p => (J 105 (9 * v + p)).toInt.natAbs) 9 p hp
    have g3 : (gM I v n u (lo v n) p).toInt.natAbs = gN u.toInt.natAbs (fromM I v n) (suM I n) (lo v n) p := by
      rw [g1]; unfold sgI; split <;> omega
    rw [c1 p hp, st2_n _ _ (by omega)]
    by_cases e : p = n
    · subst e
      rw [st2_s, if_pos rfl, Int64.zero_add, g3]
      omega
    · rw [st2_n _ _ (by omega), if_neg e, i64_add (by omega) (by omega)]
      omega
  rw [suN_add] at hle
  refine ⟨k, hk1, ?_, ?_⟩
  · unfold rN at hS ⊢
    omega
  · have hse : suN (seN (sendM I (st2 (st2 J 105 (9 * v + n) 0) 106 (9 * v + n) ((st2 J 105 (9 * v + n) 0) 106 (9 * v + n) + L)) v n u (lo v n)) v) 9 ≤ suN (fun m => seN J v m + (if m = n then u.toInt.natAbs else 0)) 9 := by
      refine suN_le 9 (fun m hm => ?_)
      have hmS : seN J v m ≤ ssN J v := suN_at (f := seN J v) 9 m hm
      by_cases e : m = n
      · subst e
        rw [if_pos rfl]
        have h9 : seN (sendM I (st2 (st2 J 105 (9 * v + m) 0) 106 (9 * v + m) ((st2 J 105 (9 * v + m) 0) 106 (9 * v + m) + L)) v m u (lo v m)) v m ≤ suN (fun o => (J 107 (81 * v + 9 * m + o)).toInt.natAbs + gN u.toInt.natAbs (fromM I v m) (suM I m) (lo v m) o) 9 := by
          refine suN_le 9 (fun o ho => ?_)
          obtain ⟨g1, g2⟩ := gM_int (lo := lo v m) hW (by omega : u.toInt.natAbs ≤ 1000000000000) ho
          have g3 : (gM I v m u (lo v m) o).toInt.natAbs = gN u.toInt.natAbs (fromM I v m) (suM I m) (lo v m) o := by
            rw [g1]; unfold sgI; split <;> omega
          have hoS : (J 107 (81 * v + 9 * m + o)).toInt.natAbs ≤ seN J v m := suN_at (f := fun o => (J 107 (81 * v + 9 * m + o)).toInt.natAbs) 9 o ho
          rw [c2 o ho, st2_n _ _ (by omega), st2_n _ _ (by omega), i64_add (by omega) (by omega)]
          omega
        rw [suN_add, hsum] at h9
        exact h9
      · rw [if_neg e, Nat.add_zero]
        refine suN_le 9 (fun o ho => ?_)
        rw [c3 _ _ (by omega) (by omega), st2_n _ _ (by omega), st2_n _ _ (by omega)]
        exact Nat.le_refl _
    rw [suN_add, suN_one, if_pos hn] at hse
    unfold ssN
    omega
/-- the walk's end, and what it leaves -/
theorem run_left {I0 : SI} {v : Nat} (hW : W99 I0) (hv : v < 4) : ∀ (F : Nat) (I2 : SI) (J2 : SJ), RelN I0 I2 → 50 ≤ (I2 102 2).toInt → (I2 102 2).toInt ≤ 90 → 100 ≤ (I2 102 3).toInt → rN J2 v ≤ 1000000000000 → 10 * rN J2 v + ssN J2 v ≤ 100000000000000 → ∀ s, runM (loF I0) v F I2 J2 = some s → 10 * rN s.2 v + ssN s.2 v ≤ 10 * rN J2 v + ssN J2 v ∧ rN s.2 v ≤ rN J2 v := by
  intro F
  induction F with
  | zero =>
    intro I2 J2 hR h1 h2 hb hS hE s hs
    unfold runM at hs
    split at hs
    · cases hs; exact ⟨Nat.le_refl _, Nat.le_refl _⟩
    · cases hs
  | succ F ih =>
    intro I2 J2 hR h1 h2 hb hS hE s hs
    unfold runM at hs
    by_cases c : nxF J2 v (I2 102 3) 9 0 = -1
    · rw [if_pos c] at hs
      cases hs; exact ⟨Nat.le_refl _, Nat.le_refl _⟩
    · obtain ⟨n, a, b, d, e⟩ := nx_un 9 0 c
      have hn : n < 9 := by omega
      rw [if_neg c, d, nI_clamp (by omega)] at hs
      obtain ⟨k, k1, k2, k3⟩ := push_dec2 (lo := loF I0) hv hn (lo_9 hv) (wt_of hR hW hv hn) h1 h2 hS (un_big hb e) (by omega)
      obtain ⟨r1, r2⟩ := ih (pushMI I2) _ (relN_far hR (fun x y q => st2_n _ _ (by omega))) (by unfold pushMI; rw [st2_n _ _ (by omega)]; exact h1) (by unfold pushMI; rw [st2_n _ _ (by omega)]; exact h2) (by unfold pushMI; rw [st2_n _ _ (by omega)]; exact hb) (by omega) (by omega) s hs
      exact ⟨by omega, by omega⟩
