def rN (J : SJ) (v : Nat) : Nat := suN (fun p => (J 105 (9 * v + p)).toInt.natAbs) 9
theorem suN_cut {f : Nat → Nat} {n : Nat} : ∀ m, suN (fun p => if p = n then 0 else f p) m + (if n < m then f n else 0) = suN f m
  | 0 => by rw [if_neg (Nat.not_lt_zero _)]; rfl
  | m + 1 => by
    have ih := suN_cut (f := f) (n := n) m
    show (if m = n then 0 else f m) + suN (fun p => if p = n then 0 else f p) m + _ = f m + suN f m
    by_cases e : m = n
    · subst e
      rw [if_pos rfl, if_pos (Nat.lt_succ_self _)]
      rw [if_neg (Nat.lt_irrefl _)] at ih
      omega
    · rw [if_neg e]
      by_cases q : n < m
      · rw [if_pos (by omega)]; rw [if_pos q] at ih; omega
      · rw [if_neg (by omega)]; rw [if_neg q] at ih; omega
theorem i32_hd {d : Int32} (h1 : 50 ≤ d.toInt) (h2 : d.toInt ≤ 90) : (100 - d).toInt64.toInt = 100 - d.toInt := by
  rw [Int32.toInt_toInt64, Int32.toInt_sub, Int.bmod_def]
  have : (100 : Int32).toInt = 100 := rfl
  rw [this]
  split <;> omega
/-- what lands -/
theorem land_int {I : SI} {J : SJ} {v n : Nat} (h1 : 50 ≤ (I 102 2).toInt) (h2 : (I 102 2).toInt ≤ 90) (hr : (J 105 (9 * v + n)).toInt.natAbs ≤ 1000000000000) :
    ∃ k : Nat, (landM I J v n).toInt = sgI (J 105 (9 * v + n)).toInt * k ∧ k = (J 105 (9 * v + n)).toInt.natAbs * (100 - (I 102 2).toInt).toNat / 100 := by
  refine ⟨_, ?_, rfl⟩
  have hd := i32_hd h1 h2
  generalize hR : J 105 (9 * v + n) = r at *
  generalize hc : 100 - (I 102 2).toInt = k at *
  have hk : 10 ≤ k ∧ k ≤ 50 := by omega
  have k1 : (r.toInt * k).natAbs ≤ 50000000000000 := by
    rw [Int.natAbs_mul]
    have : k.natAbs ≤ 50 := by omega
    exact Nat.le_trans (Nat.mul_le_mul hr this) (by decide)
  unfold landM
  rw [hR]
  have e1 : (r * (100 - I 102 2).toInt64).toInt = r.toInt * k := by rw [i64_mul (by rw [hd]; omega) (by rw [hd]; omega), hd]
  rw [i64_div (by decide) (by rw [e1]; omega) (by rw [e1]; omega), e1, show (100 : Int64).toInt = 100 from rfl, Int.natCast_ediv, Int.natCast_mul, show ((k.toNat : Nat) : Int) = k from by omega]
  have hnn : 0 ≤ (r.toInt.natAbs : Int) * k := Int.mul_nonneg (by omega) (by omega)
  rw [show ((100 : Nat) : Int) = 100 from rfl, ← Int.tdiv_eq_ediv_of_nonneg hnn]
  conv => lhs; rw [sgI_abs r.toInt]
  unfold sgI
  split
  · rw [Int.one_mul, Int.one_mul]
  · rw [Int.neg_mul, Int.one_mul, Int.neg_mul, Int.neg_tdiv, Int.neg_mul, Int.one_mul]
/-- a push: the rests are less by what lands, 10 at least -/
theorem push_dec {I : SI} {J : SJ} {v n : Nat} {lo : Nat → Nat → Nat} (hv : v < 4) (hn : n < 9) (hlo : lo v n < 9) (hW : WT (fromM I v n) (suM I n)) (h1 : 50 ≤ (I 102 2).toInt) (h2 : (I 102 2).toInt ≤ 90) (hS : rN J v ≤ 1000000000000) (hr : 100 ≤ (J 105 (9 * v + n)).toInt.natAbs) :
    rN (pushM I lo J v n) v + 10 ≤ rN J v := by
  have hrS : (J 105 (9 * v + n)).toInt.natAbs ≤ rN J v := suN_at (f := fun p => (J 105 (9 * v + p)).toInt.natAbs) 9 n hn
  obtain ⟨k, hl, hk⟩ := land_int (J := J) (v := v) (n := n) h1 h2 (by omega)
  have hk1 : 10 ≤ k := by
    rw [hk, Nat.le_div_iff_mul_le (by decide)]
    have : 10 ≤ (100 - (I 102 2).toInt).toNat := by omega
    exact Nat.le_trans (by decide : 10 * 100 ≤ 100 * 10) (Nat.mul_le_mul hr this)
  have hk2 : k ≤ (J 105 (9 * v + n)).toInt.natAbs := by
    rw [hk]
    refine Nat.div_le_of_le_mul ?_
    rw [Nat.mul_comm]
    exact Nat.mul_le_mul_right _ (by omega)
  have hsg := sgI_abs (J 105 (9 * v + n)).toInt
  generalize hL : landM I J v n = L at *
  have eu : (J 105 (9 * v + n) - L).toInt = (J 105 (9 * v + n)).toInt - L.toInt := by
    apply i64_sub
    · rw [hl]; unfold sgI; split <;> omega
    · rw [hl]; unfold sgI; split <;> omega
  have eU : (J 105 (9 * v + n) - L).toInt.natAbs + k = (J 105 (9 * v + n)).toInt.natAbs := by
    rw [eu, hl]; unfold sgI; split <;> omega
  generalize hu : J 105 (9 * v + n) - L = u at *
  obtain ⟨c1, -, -⟩ := sendM_eq (I := I) (J := st2 (st2 J 105 (9 * v + n) 0) 106 (9 * v + n) ((st2 J 105 (9 * v + n) 0) 106 (9 * v + n) + L)) (u := u) hv hn hlo
  have eP : pushM I lo J v n = sendM I (st2 (st2 J 105 (9 * v + n) 0) 106 (9 * v + n) ((st2 J 105 (9 * v + n) 0) 106 (9 * v + n) + L)) v n u (lo v n) := by
    unfold pushM
    rw [hL, hu]
  rw [eP]
  have hsum := gN_sum (U := u.toInt.natAbs) hW hlo
  have hcut := suN_cut (f := fun p => (J 105 (9 * v + p)).toInt.natAbs) (n := n) 9
  rw [if_pos hn] at hcut
  have hle : suN (fun p => (sendM I (st2 (st2 J 105 (9 * v + n) 0) 106 (9 * v + n) ((st2 J 105 (9 * v + n) 0) 106 (9 * v + n) + L)) v n u (lo v n) 105 (9 * v + p)).toInt.natAbs) 9
      ≤ suN (fun p => (if p = n then 0 else (J 105 (9 * v + p)).toInt.natAbs) + gN u.toInt.natAbs (fromM I v n) (suM I n) (lo v n) p) 9 := by
    refine suN_le 9 (fun p hp => ?_)
    obtain ⟨g1, g2⟩ := gM_int (lo := lo v n) hW (by omega : u.toInt.natAbs ≤ 1000000000000) hp
    have hpS : (J 105 (9 * v + p)).toInt.natAbs ≤ rN J v := suN_at (f := fun p => (J 105 (9 * v + p)).toInt.natAbs) 9 p hp
    have g3 : (gM I v n u (lo v n) p).toInt.natAbs = gN u.toInt.natAbs (fromM I v n) (suM I n) (lo v n) p := by
      rw [g1]; unfold sgI; split <;> omega
    rw [c1 p hp, st2_n _ _ (by omega)]
    by_cases e : p = n
    · subst e
      rw [st2_s, if_pos rfl, Int64.zero_add, g3]
      omega
    · rw [st2_n _ _ (by omega), if_neg e, i64_add (by omega) (by omega)]
      omega
  rw [suN_add] at hle
  unfold rN at hS ⊢
  omega
/-- the weights that the reference walks by -/
theorem wt_of {I0 I2 : SI} (hR : RelN I0 I2) (hW : W99 I0) {v n : Nat} (hv : v < 4) (hn : n < 9) : WT (fromM I2 v n) (suM I2 n) := by
  by_cases c0 : cN I0 n 9 = 0
  · obtain ⟨e1, e2⟩ := from_z hR hW (v := v) hn c0
    rw [e1, e2]
    refine ⟨fun o ho => ?_, by decide, ?_⟩
    · dsimp only
      split <;> exact ⟨by decide, by decide⟩
    · have key : ∀ m, wN (fun p => if p = v then (1 : Int32) else 0) m = if v < m then 1 else 0 := by
        intro m
        induction m with
        | zero => rw [if_neg (Nat.not_lt_zero _)]; rfl
        | succ m ih =>
          unfold wN
          rw [ih]
          by_cases e : m = v
          · rw [if_pos e, if_neg (by omega), if_pos (by omega)]; rfl
          · rw [if_neg e]
            by_cases q : v < m
            · rw [if_pos q, if_pos (by omega)]; rfl
            · rw [if_neg q, if_neg (by omega)]; rfl
      rw [key 9, if_pos (by omega)]; rfl
  · obtain ⟨e1, e2⟩ := from_w hR hW (v := v) hn c0
    refine ⟨fun o ho => by rw [e1 o ho]; exact wM_bd hW hn ho, ?_, ?_⟩
    · rw [e2]; exact i32_pos.mp ((s9_pos hW hn).mpr (by omega))
    · rw [e2]
      have key : ∀ m, m ≤ 9 → ((wN (fromM I2 v n) m : Nat) : Int) = (sM I0 n m).toInt := by
        intro m
        induction m with
        | zero => intro _; rfl
        | succ m ih =>
          intro hm
          have h1 := ih (by omega)
          obtain ⟨d1, d2⟩ := wM_bd hW hn (o := m) (by omega)
          obtain ⟨a, b, -, -⟩ := sM_bd hW hn m (by omega)
          have e3 : (sM I0 n (m + 1)).toInt = (sM I0 n m).toInt + (wM I0 n m).toInt := i32_add (by omega) (by omega)
          unfold wN
          rw [e3, e1 m (by omega)]
          omega
      have := key 9 (Nat.le_refl _)
      omega
theorem un_big {J : SJ} {v n : Nat} {bd : Int32} (hb : 100 ≤ bd.toInt) (h : unM J v n bd = true) : 100 ≤ (J 105 (9 * v + n)).toInt.natAbs := by
  unfold unM at h
  have e1 : bd.toInt64.toInt = bd.toInt := Int32.toInt_toInt64 _
  have hbm := Int32.toInt_lt bd
  have e2 : (-bd).toInt64.toInt = -bd.toInt := by
    rw [Int32.toInt_toInt64, Int32.toInt_neg, Int.bmod_def]
    split <;> omega
  rw [Bool.or_eq_true, decide_eq_true_eq, decide_eq_true_eq, Int64.le_iff_toInt_le, Int64.le_iff_toInt_le, e1, e2] at h
  omega
theorem nx_un {J : SJ} {v : Nat} {bd : Int32} : ∀ t j, nxF J v bd t j ≠ -1 → ∃ n, j ≤ n ∧ n < j + t ∧ nxF J v bd t j = nI n ∧ unM J v n bd = true
  | 0, j, h => absurd rfl h
  | t + 1, j, h => by
    unfold nxF at h ⊢
    by_cases q : unM J v j bd = true
    · rw [if_pos q]; exact ⟨j, Nat.le_refl _, by omega, rfl, q⟩
    · rw [if_neg q] at h ⊢
      obtain ⟨n, a, b, d, e⟩ := nx_un t (j + 1) h
      exact ⟨n, by omega, by omega, d, e⟩
/-- the crude law: a tenth of the rests are pushes enough -/
theorem run_end {I0 : SI} {v : Nat} (hW : W99 I0) (hv : v < 4) : ∀ (F : Nat) (I2 : SI) (J2 : SJ), RelN I0 I2 → 50 ≤ (I2 102 2).toInt → (I2 102 2).toInt ≤ 90 → 100 ≤ (I2 102 3).toInt → rN J2 v ≤ 10 * F → F ≤ 100000000 → ∃ s, runM (loF I0) v F I2 J2 = some s := by
  intro F
  induction F with
  | zero =>
    intro I2 J2 hR h1 h2 hb hS _
    unfold runM
    by_cases c : nxF J2 v (I2 102 3) 9 0 = -1
    · rw [if_pos c]; exact ⟨_, rfl⟩
    · obtain ⟨n, a, b, d, e⟩ := nx_un 9 0 c
      have hr := un_big hb e
      have := suN_at (f := fun p => (J2 105 (9 * v + p)).toInt.natAbs) 9 n (by omega)
      unfold rN at hS
      omega
  | succ F ih =>
    intro I2 J2 hR h1 h2 hb hS hF
    unfold runM
    by_cases c : nxF J2 v (I2 102 3) 9 0 = -1
    · rw [if_pos c]; exact ⟨_, rfl⟩
    · obtain ⟨n, a, b, d, e⟩ := nx_un 9 0 c
      have hn : n < 9 := by omega
      rw [if_neg c, d, nI_clamp (by omega)]
      have hp := push_dec (lo := loF I0) hv hn (lo_9 hv) (wt_of hR hW hv hn) h1 h2 (by omega) (un_big hb e)
      exact ih (pushMI I2) _ (relN_far hR (fun x y q => st2_n _ _ (by omega))) (by unfold pushMI; rw [st2_n _ _ (by omega)]; exact h1) (by unfold pushMI; rw [st2_n _ _ (by omega)]; exact h2) (by unfold pushMI; rw [st2_n _ _ (by omega)]; exact hb) (by omega) (by omega)
