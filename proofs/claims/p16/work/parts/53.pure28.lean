/-! all walks settled, the drift kept -/
/-- a walk's rows are the same -/
def smW (x : Nat) (J J' : SJ) : Prop := (∀ p, p < 9 → J' 105 (9 * x + p) = J 105 (9 * x + p)) ∧ ∀ n o, n < 9 → o < 9 → J' 107 (81 * x + 9 * n + o) = J 107 (81 * x + 9 * n + o)
theorem smW.tr {x : Nat} {A B D : SJ} (h : smW x A B) (g : smW x B D) : smW x A D := ⟨fun p hp => (g.1 p hp).trans (h.1 p hp), fun n o hn ho => (g.2 n o hn ho).trans (h.2 n o hn ho)⟩
theorem smW_fR {v x : Nat} {J J' : SJ} (hv : v < 4) (hx : x < 4) (hne : x ≠ v) (f : fR v J J') : smW x J J' := ⟨fun p hp => f _ _ (by omega) (by omega) (by omega), fun n o hn ho => f _ _ (by omega) (by omega) (by omega)⟩
section Same
variable {x : Nat} {J J' : SJ}
theorem sm_s (h : smW x J J') {n o : Nat} (hn : n < 9) (ho : o < 9) : sI J' x n o = sI J x n o := by unfold sI; rw [h.2 n o hn ho]
theorem sm_rN (h : smW x J J') : rN J' x = rN J x := suN_congr 9 (fun p hp => by rw [h.1 p hp])
theorem sm_ss (h : smW x J J') : ssN J' x = ssN J x := suN_congr 9 (fun n hn => suN_congr 9 (fun o ho => by rw [h.2 n o hn ho]))
theorem sm_m (h : smW x J J') {n : Nat} (hn : n < 9) : mI J' x n = mI J x n := suI_congr 9 (fun o ho => sm_s h hn ho)
theorem sm_y (h : smW x J J') {k : Nat} (hk : k < 9) : yI J' x k = yI J x k := by
  have e : inI J' x k = inI J x k := suI_congr 9 (fun n hn => sm_s h hn hk)
  unfold yI rI
  rw [e, h.1 k hk]
theorem sm_df (h : smW x J J') (d : Int) : dfN d J' x = dfN d J x ∧ amN J' x = amN J x := dfN_congr (fun _ hk => sm_y h hk) (fun _ hm => sm_m h hm)
theorem sm_sh (h : smW x J J') {I : SI} {n : Nat} (hn : n < 9) : shN I J' x n = shN I J x n := suN_congr 9 (fun o ho => by rw [sm_s h hn ho, sm_m h hn])
theorem sm_Dr (h : smW x J J') {d : Int} {b E C : Nat} (hD : Dr d b E C J x) : Dr d b E C J' x := by
  obtain ⟨e1, e2⟩ := sm_df h d
  unfold Dr
  rw [e1, e2, sm_ss h, sm_rN h]
  exact hD
end Same
/-- a walk that is to be settled, with its numbers -/
def rdW (I2 : SI) (E c0 s : Nat) (J : SJ) (v : Nat) : Prop := dfN (I2 102 2).toInt J v ≤ 9 * (100 - (I2 102 2).toInt).toNat * E ∧ (∀ n, n < 9 → shN I2 J v n ≤ (suM I2 n).toInt.toNat * c0) ∧ rN J v ≤ (I2 102 3).toInt.toNat / 10 * s ∧ rN J v ≤ 1000000000000 ∧ 10 * rN J v + ssN J v ≤ 100000000000000
theorem sm_rd {I2 : SI} {E c0 s x : Nat} {J J' : SJ} (h : smW x J J') (hD : rdW I2 E c0 s J x) : rdW I2 E c0 s J' x := by
  obtain ⟨e1, e2⟩ := sm_df h (I2 102 2).toInt
  obtain ⟨h1, h2, h3, h4, h5⟩ := hD
  refine ⟨by rw [e1]; exact h1, fun n hn => by rw [sm_sh h hn]; exact h2 n hn, by rw [sm_rN h]; exact h3, by rw [sm_rN h]; exact h4, by rw [sm_rN h, sm_ss h]; exact h5⟩
/-- what holds of damping and bound -/
def dbOK (I2 : SI) : Prop := 50 ≤ (I2 102 2).toInt ∧ (I2 102 2).toInt ≤ 90 ∧ 100 ≤ (I2 102 3).toInt ∧ (I2 102 3).toInt ≤ 100000
theorem div_mul_cmp {a b h e s k fb t : Nat} (hfb : 10 ≤ fb) (hr : a ≤ fb * s) (hh : t * (fb * h) ≤ e * (10 * a) + fb * k) : t * h ≤ 10 * e * s + k := by
  have m1 : e * (10 * a) ≤ e * (10 * (fb * s)) := Nat.mul_le_mul_left _ (Nat.mul_le_mul_left _ hr)
  have e1 : e * (10 * (fb * s)) = fb * (10 * e * s) := by grind
  have e2 : t * (fb * h) = fb * (t * h) := Nat.mul_left_comm _ _ _
  have m2 : fb * (t * h) ≤ fb * (10 * e * s + k) := by
    rw [Nat.mul_add, ← e2, ← e1]
    omega
  exact Nat.le_of_mul_le_mul_left m2 (by omega)
theorem settle_one {I0 I2 : SI} {J : SJ} {v E c0 s : Nat} {I : SI} (hI : ∀ a b, ¬ (a = 102 ∧ b = 4) → I a b = I2 a b) (hW : W99 I0) (hR : RelN I0 I2) (hdb : dbOK I2) (hv : v < 4) (h : rdW I2 E c0 s J v) (hs : nbD s < 10000000) :
    ∃ q, runM (loF I0) v 10000000 I J = some q ∧ Dr (I2 102 2).toInt (I2 102 3).toInt.toNat (E + nbD s) (9 * c0 + 10 * nbD s) q.2 v := by
  obtain ⟨h1, h2, h3, h4, h5⟩ := h
  have hI2 : ∀ a b, a ≠ 102 → I a b = I2 a b := fun a b q => hI a b (fun z => q z.1)
  have e2 : I 102 2 = I2 102 2 := hI _ _ (by omega)
  have e3 : I 102 3 = I2 102 3 := hI _ _ (by omega)
  have hre : reS I0 v (I, J) := ⟨hW, hv, relN_far hR hI2, by show 50 ≤ (I 102 2).toInt; rw [e2]; exact hdb.1, by show (I 102 2).toInt ≤ 90; rw [e2]; exact hdb.2.1, by show 100 ≤ (I 102 3).toInt; rw [e3]; exact hdb.2.2.1, h4, h5⟩
  have hb := hdb.2.2.1
  obtain ⟨x, hx, hlt⟩ := nbL_lt tabD hs
  obtain ⟨i, hi⟩ := tab_mem hx
  rw [hi] at hlt
  have hlt : (10 * e8D i * s + kaD 5 i) / h1D i + 2509 < 10000000 := hlt
  have hp := h1D_pos i
  have hq : 10 * e8D i * s + kaD 5 i < (10000000 - 2509) * h1D i := by
    have : (10 * e8D i * s + kaD 5 i) / h1D i < 10000000 - 2509 := by omega
    exact (Nat.div_lt_iff_lt_mul hp).mp this
  obtain ⟨q, hq2⟩ := run_end2 hre (F := 10000000) i (by
    show e8D i * (10 * rN J v) + (I 102 3).toInt.toNat / 10 * kaD 5 i < (10000000 - 2509) * ((I 102 3).toInt.toNat / 10 * h1D i)
    rw [e3]
    rcases Nat.lt_or_ge (e8D i * (10 * rN J v) + (I2 102 3).toInt.toNat / 10 * kaD 5 i) ((10000000 - 2509) * ((I2 102 3).toInt.toNat / 10 * h1D i)) with z | z
    · exact z
    · have := div_mul_cmp (b := 0) (by omega) h3 z
      omega)
  refine ⟨q, hq2, ?_⟩
  obtain ⟨t, t1, t2, t3⟩ := run_dr hre (E := E) (c0 := c0) (by show dfN (I 102 2).toInt J v ≤ 9 * (100 - (I 102 2).toInt).toNat * E; rw [e2]; exact h1) (fun n hn => by
    show shN I J v n ≤ (suM I n).toInt.toNat * c0
    unfold shN
    rw [suM_f2 hI2, fromM_f2 hI2]
    exact h2 n hn) hq2
  have tl : t ≤ nbD s := nbL_le t1 tabD (fun y hy => by
    obtain ⟨k, hk⟩ := tab_mem hy
    rw [hk]
    refine ⟨h1D_pos k, ?_⟩
    have := t2 k
    have z : (t - 2509) * ((I 102 3).toInt.toNat / 10 * h1D k) ≤ e8D k * (10 * rN J v) + (I 102 3).toInt.toNat / 10 * kaD 5 k := this
    rw [e3] at z
    exact div_mul_cmp (b := 0) (by omega) h3 z)
  have t3 : Dr (I 102 2).toInt (I 102 3).toInt.toNat (E + t) (9 * c0 + 10 * t) q.2 v := t3
  rw [e2, e3] at t3
  obtain ⟨a1, a2, a3⟩ := t3
  exact ⟨Nat.le_trans a1 (Nat.mul_le_mul_left _ (by omega)), by omega, a3⟩
/-- all walks -/
theorem settle_all {I0 I2 : SI} {J2 : SJ} {E c0 s : Nat} (hW : W99 I0) (hR : RelN I0 I2) (hdb : dbOK I2) (hs : nbD s < 10000000) (h : ∀ v, v < 4 → rdW I2 E c0 s J2 v) : ∀ v, v ≤ 4 →
    (∀ a b, ¬ (a = 102 ∧ b = 4) → (sqR (loF I0) 10000000 I2 J2 v).1 a b = I2 a b) ∧ (∀ x, x < 4 → v ≤ x → smW x J2 (sqR (loF I0) 10000000 I2 J2 v).2) ∧ (∀ x, x < v → (∃ q, runM (loF I0) x 10000000 (sqR (loF I0) 10000000 I2 J2 x).1 (sqR (loF I0) 10000000 I2 J2 x).2 = some q) ∧ Dr (I2 102 2).toInt (I2 102 3).toInt.toNat (E + nbD s) (9 * c0 + 10 * nbD s) (sqR (loF I0) 10000000 I2 J2 v).2 x)
  | 0, _ => ⟨fun _ _ _ => rfl, fun _ _ _ => ⟨fun _ _ => rfl, fun _ _ _ _ => rfl⟩, fun x hx => absurd hx (Nat.not_lt_zero _)⟩
  | v + 1, hv => by
    obtain ⟨a, b, c⟩ := settle_all hW hR hdb hs h v (by omega)
    have hv4 : v < 4 := by omega
    obtain ⟨q, hq, hD⟩ := settle_one a hW hR hdb hv4 (sm_rd (b v hv4 (Nat.le_refl _)) (h v hv4)) hs
    obtain ⟨r1, r2⟩ := run_frame hv4 10000000 _ _ q hq
    have eR : sqR (loF I0) 10000000 I2 J2 (v + 1) = q := by
      conv => lhs; unfold sqR
      rw [hq]; rfl
    rw [eR]
    refine ⟨fun x y z => (r2 x y z).trans (a x y z), fun x hx z => (b x hx (by omega)).tr (smW_fR hv4 hx (by omega) r1), fun x hx => ?_⟩
    by_cases e : x = v
    · subst e; exact ⟨⟨q, hq⟩, hD⟩
    · exact ⟨(c x (by omega)).1, sm_Dr (smW_fR hv4 (by omega) e r1) (c x (by omega)).2⟩
theorem sgE_ok {E C b r : Nat} (hb : 100 ≤ b) (hr : r ≤ 18 * E + 19 * C + 18000000 + 171 * b) : r ≤ b / 10 * sgE E C := by
  unfold sgE
  rw [Nat.mul_add]
  have m : 10 * ((18 * E + 19 * C + 18000000) / 10) ≤ b / 10 * ((18 * E + 19 * C + 18000000) / 10) := Nat.mul_le_mul_right _ (by omega)
  omega
theorem mdA_sm {I0 I2 : SI} {J2 : SJ} : ∀ k, k ≤ 4 → ∀ x, x < 4 → k ≤ x → smW x J2 (mdA I2 (loF I0) J2 k)
  | 0, _, _, _, _ => ⟨fun _ _ => rfl, fun _ _ _ _ => rfl⟩
  | k + 1, hk, x, hx, hkx => (mdA_sm k (by omega) x hx (by omega)).tr (smW_fR (v := k) (by omega) hx (by omega) (fR_md (by omega) 9 (Nat.le_refl _)))
theorem mdA_hi2 {I0 I2 : SI} {J2 : SJ} {x : Nat} (hx : x < 4) : ∀ t, x + 1 + t ≤ 4 → smW x (mdA I2 (loF I0) J2 (x + 1)) (mdA I2 (loF I0) J2 (x + 1 + t))
  | 0, _ => ⟨fun _ _ => rfl, fun _ _ _ _ => rfl⟩
  | t + 1, ht => (mdA_hi2 hx t (by omega)).tr (smW_fR (v := x + 1 + t) (by omega) hx (by omega) (fR_md (by omega) 9 (Nat.le_refl _)))
/-- the drift's numbers of all walks behind the j-th settling -/
def DrA (I2 : SI) (j : Nat) (J2 : SJ) : Prop := ∀ v, v < 4 → Dr (I2 102 2).toInt (I2 102 3).toInt.toNat (drS j).1 (drS j).2 J2 v
theorem nb_le (s : Nat) : nbD s ≤ 10000000 := by
  have : ∀ l : List (Nat × Nat × Nat), nbL s l ≤ 10000000 := by
    intro l
    induction l with
    | nil => exact Nat.le_refl _
    | cons x r ih => unfold nbL; split <;> omega
  exact this tabD
theorem drS_2 : ∀ j, (drS j).2 ≤ 200000000
  | 0 => by have := nb_le 100000; show 90 + 10 * nbD 100000 ≤ _; omega
  | j + 1 => by have := nb_le (sgE (drS j).1 (drS j).2); show 90 + 10 * nbD (sgE (drS j).1 (drS j).2) ≤ _; omega
/-- a mending call: it ends, and the numbers go on -/
theorem mends_dr {I0 I2 : SI} {J2 : SJ} {j : Nat} (hW : W99 I0) (hR : RelN I0 I2) (hdb : dbOK I2) (hj : j < 513) (h : DrA I2 j J2) :
    TermR (loF I0) 10000000 I2 (mdA I2 (loF I0) J2 4) ∧ DrA I2 (j + 1) (sqR (loF I0) 10000000 I2 (mdA I2 (loF I0) J2 4) 4).2 := by
  obtain ⟨n1, n2⟩ := drS_ok hj
  have n3 := drS_2 j
  have hr : ∀ v, v < 4 → rdW I2 (drS j).1 10 (sgE (drS j).1 (drS j).2) (mdA I2 (loF I0) J2 4) v := fun v hv => by
    have s1 := mdA_sm (I0 := I0) (I2 := I2) (J2 := J2) v (by omega) v hv (Nat.le_refl _)
    have s2 := mdA_hi2 (I0 := I0) (I2 := I2) (J2 := J2) hv (3 - v) (by omega)
    rw [show v + 1 + (3 - v) = 4 from by omega] at s2
    have D1 := sm_Dr s1 (h v hv)
    obtain ⟨m1, m2, m3, m4⟩ := mend_dr (I2 := I2) (J := mdA I2 (loF I0) J2 v) hR hW hv hdb.1 hdb.2.1 D1 (by have := hdb.2.2.2; omega) n2 n3
    refine sm_rd s2 ⟨m1, m2, sgE_ok (by have := hdb.2.2.1; omega) m3, ?_, ?_⟩
    · have := hdb.2.2.2
      show rN (mdM I2 (loF I0) (mdA I2 (loF I0) J2 v) v 9) v ≤ _
      omega
    · have := hdb.2.2.2
      show 10 * rN (mdM I2 (loF I0) (mdA I2 (loF I0) J2 v) v 9) v + ssN (mdM I2 (loF I0) (mdA I2 (loF I0) J2 v) v 9) v ≤ _
      omega
  obtain ⟨-, -, c⟩ := settle_all hW hR hdb n1 hr 4 (Nat.le_refl _)
  exact ⟨fun v hv => (c v hv).1, fun v hv => (c v hv).2⟩
/-- a beginning -/
theorem begins_dr {I0 I2 : SI} {J2 : SJ} (hW : W99 I0) (hR : RelN I0 I2) (hdb : dbOK I2) :
    TermR (loF I0) 10000000 I2 (beginM J2) ∧ DrA I2 0 (sqR (loF I0) 10000000 I2 (beginM J2) 4).2 := by
  have hn : nbD 100000 < 10000000 := by decide +kernel
  have hr : ∀ v, v < 4 → rdW I2 0 0 100000 (beginM J2) v := fun v hv => by
    obtain ⟨b1, b2⟩ := bm2_eq (J := bm1 J2 324) 36
    have b3 := bm1_eq (J := J2) 324
    have s0 : ∀ n o, n < 9 → o < 9 → sI (beginM J2) v n o = 0 := fun n o hn ho => by
      unfold sI beginM
      rw [congrFun b2 _, b3 _ (by omega)]
      rfl
    have m0 : ∀ n, n < 9 → mI (beginM J2) v n = 0 := fun n hn => by
      have e : mI (beginM J2) v n = suI (fun o => if o = 9 then (0 : Int) else 0) 9 := suI_congr 9 (fun o ho => by rw [s0 n o hn ho, if_neg (by omega)])
      rw [e, suI_one, if_neg (by omega)]
    have i0 : ∀ k, k < 9 → inI (beginM J2) v k = 0 := fun k hk => by
      have e : inI (beginM J2) v k = suI (fun o => if o = 9 then (0 : Int) else 0) 9 := suI_congr 9 (fun o ho => by rw [s0 o k ho hk, if_neg (by omega)])
      rw [e, suI_one, if_neg (by omega)]
    have y0 : ∀ k, k < 9 → yI (beginM J2) v k = 0 := fun k hk => by
      have e : rI (beginM J2) v k = if k = v then 1000000 else 0 := by
        unfold rI beginM
        rw [(b1 _ (by omega)).2]
        by_cases q : k = v
        · rw [if_pos q, if_pos (by omega)]; rfl
        · rw [if_neg q, if_neg (by omega)]; rfl
      unfold yI
      rw [i0 k hk, e]
      omega
    obtain ⟨r1, r2⟩ := rN_begin (J := J2) hv
    have hb := hdb.2.2.1
    refine ⟨?_, fun n hn => ?_, ?_, by omega, by omega⟩
    · have e : dfN (I2 102 2).toInt (beginM J2) v = suN (fun _ => 0) 9 := suN_congr 9 (fun n hn => by rw [m0 n hn, y0 n hn, Int.mul_zero, Int.mul_zero]; rfl)
      rw [e, suN_zero]
      exact Nat.zero_le _
    · have e : shN I2 (beginM J2) v n = suN (fun _ => 0) 9 := suN_congr 9 (fun o ho => by rw [m0 n hn, s0 n o hn ho, Int.mul_zero, Int.mul_zero]; rfl)
      rw [e, suN_zero]
      exact Nat.zero_le _
    · rw [r1]
      have : 10 * 100000 ≤ (I2 102 3).toInt.toNat / 10 * 100000 := Nat.mul_le_mul_right _ (by omega)
      omega
  obtain ⟨-, -, c⟩ := settle_all hW hR hdb hn hr 4 (Nat.le_refl _)
  refine ⟨fun v hv => (c v hv).1, fun v hv => ?_⟩
  obtain ⟨a1, a2, a3⟩ := (c v hv).2
  refine ⟨?_, ?_, a3⟩
  · rw [Nat.zero_add] at a1
    exact a1
  · show _ ≤ _ + (90 + 10 * nbD 100000)
    omega
