/-! a mend keeps the drift's numbers -/
theorem tk_zero {J : SJ} {v n : Nat} : ∀ o, o ≤ 9 → ∀ q, q < o → (tkM J v n o).2 107 (81 * v + 9 * n + q) = 0
  | 0, _, q, hq => absurd hq (Nat.not_lt_zero _)
  | o + 1, ho, q, hq => by
    unfold tkM
    dsimp only
    by_cases e : q = o
    · rw [e, st2_s]
    · rw [st2_n _ _ (by omega), st2_n _ _ (by omega)]
      exact tk_zero o (by omega) q (by omega)
theorem tk_int {J : SJ} {v n : Nat} (hn : n < 9) (hb : seN J v n ≤ 1000000000000) : ∀ o, o ≤ 9 → (tkM J v n o).1.toInt = suI (sI J v n) o
  | 0, _ => rfl
  | o + 1, ho => by
    have ih := tk_int hn hb o (by omega)
    have b := (tk_eq (J := J) (v := v) hn o (by omega)).2 (81 * v + 9 * n + o) (by omega)
    have t1 := tk_sum (J := J) (v := v) hn hb o (by omega)
    have m1 := suN_mono (f := fun o => (J 107 (81 * v + 9 * n + o)).toInt.natAbs) (o + 1) (8 - o)
    rw [show o + 1 + (8 - o) = 9 from by omega] at m1
    have e : suN (fun o => (J 107 (81 * v + 9 * n + o)).toInt.natAbs) (o + 1) = (J 107 (81 * v + 9 * n + o)).toInt.natAbs + suN (fun o => (J 107 (81 * v + 9 * n + o)).toInt.natAbs) o := rfl
    unfold seN at hb
    have e2 : suI (sI J v n) (o + 1) = (J 107 (81 * v + 9 * n + o)).toInt + suI (sI J v n) o := rfl
    unfold tkM
    dsimp only
    rw [b, i64_add (by omega) (by omega), ih, e2]
    omega
theorem tk_row {J : SJ} {v n m o : Nat} (hn : n < 9) (hm : m < 9) (hmn : m ≠ n) (ho : o < 9) : (tkM J v n 9).2 107 (81 * v + 9 * m + o) = J 107 (81 * v + 9 * m + o) := (tk_eq hn 9 (Nat.le_refl _)).2 _ (by omega)
/-- one node mended -/
theorem md_one {I0 I2 : SI} {K : SJ} {v n : Nat} (hR : RelN I0 I2) (hW : W99 I0) (hv : v < 4) (hn : n < 9) (hse : seN K v n ≤ 1000000000000) (hr : rN K v ≤ 50000000000000) (hss : ssN K v ≤ 100000000000000) {K2 : SJ} (hK : K2 = sendM I2 (tkM K v n 9).2 v n (tkM K v n 9).1 (loF I0 v n)) :
    (∀ k, k < 9 → yI K2 v k = yI K v k) ∧ (∀ m, m < 9 → mI K2 v m = mI K v m) ∧ rN K2 v ≤ rN K v + seN K v n + (mI K v n).natAbs ∧ shN I2 K2 v n ≤ (suM I2 n).toInt.toNat * 10 ∧ (∀ m o, m < 9 → m ≠ n → o < 9 → sI K2 v m o = sI K v m o) ∧ (mI K v n).natAbs ≤ seN K v n := by
  have hwt := wt_of hR hW hv hn
  have hlo : loF I0 v n < 9 := lo_9 hv
  have hc := cw_5 hR hW hv hn
  have u1 := tk_int hn hse 9 (Nat.le_refl _)
  have u2 := tk_sum (J := K) (v := v) hn hse 9 (Nat.le_refl _)
  have u2 : (tkM K v n 9).1.toInt.natAbs ≤ seN K v n := u2
  have u3 : (tkM K v n 9).1.toInt = mI K v n := u1
  obtain ⟨k1, k2⟩ := tk_eq (J := K) (v := v) hn 9 (Nat.le_refl _)
  have k3 := tk_zero (J := K) (v := v) (n := n) 9 (Nat.le_refl _)
  have k4 := fun m o hm hmn ho => tk_row (J := K) (v := v) (n := n) (m := m) (o := o) hn hm hmn ho
  have kr := tk_rN (J := K) (v := v) hn hse (by omega)
  have ks := send_rN (I := I2) (J := (tkM K v n 9).2) (u := (tkM K v n 9).1) hv hn hlo hwt (by omega) (by omega)
  generalize hu : (tkM K v n 9).1 = u at *
  generalize hK1 : (tkM K v n 9).2 = K1 at *
  obtain ⟨c1, c2, c3⟩ := sendM_eq (I := I2) (J := K1) (u := u) hv hn hlo
  rw [← hK] at c1 c2 c3 ks
  have hsg := sgI_or u.toInt
  have hab := sgI_abs u.toInt
  have rK : ∀ p, p < 9 → (K 105 (9 * v + p)).toInt.natAbs ≤ rN K v := fun p hp => suN_at (f := fun p => (K 105 (9 * v + p)).toInt.natAbs) 9 p hp
  have sK : ∀ o, o < 9 → (K 107 (81 * v + 9 * n + o)).toInt.natAbs ≤ seN K v n := fun o ho => suN_at (f := fun o => (K 107 (81 * v + 9 * n + o)).toInt.natAbs) 9 o ho
  have g : ∀ p, p < 9 → (gM I2 v n u (loF I0 v n) p).toInt = sgI u.toInt * (gN u.toInt.natAbs (fromM I2 v n) (suM I2 n) (loF I0 v n) p : Nat) ∧ (gM I2 v n u (loF I0 v n) p).toInt.natAbs ≤ 1000000000000 := fun p hp => by
    obtain ⟨g1, g2⟩ := gM_int (lo := loF I0 v n) hwt (by omega : u.toInt.natAbs ≤ 1000000000000) hp
    refine ⟨g1, ?_⟩
    rw [g1]
    rcases hsg with w | w
    · rw [w, Int.one_mul]; omega
    · rw [w, Int.neg_mul, Int.one_mul]; omega
  -- rows
  have o2 : ∀ m o, m < 9 → m ≠ n → o < 9 → sI K2 v m o = sI K v m o := fun m o hm hmn ho => by
    unfold sI
    rw [c3 _ _ (by omega) (by omega), k4 m o hm hmn ho]
  have o1 : ∀ o, o < 9 → sI K2 v n o = sI K1 v n o + sgI u.toInt * (gN u.toInt.natAbs (fromM I2 v n) (suM I2 n) (loF I0 v n) o : Nat) := fun o ho => by
    obtain ⟨g1, g2⟩ := g o ho
    unfold sI
    rw [c2 o ho, k3 o ho, Int64.zero_add, ← g1]
    show _ = 0 + _
    omega
  have z1 : ∀ o, o < 9 → sI K1 v n o = 0 := fun o ho => by
    unfold sI
    rw [k3 o ho]
    rfl
  have zm : mI K1 v n = 0 := by
    have e : mI K1 v n = suI (fun o => if o = 9 then (0 : Int) else 0) 9 := suI_congr 9 (fun o ho => by rw [z1 o ho, if_neg (by omega)])
    rw [e, suI_one, if_neg (by omega)]
  obtain ⟨s1, s2⟩ := sh_gift hsg hwt hlo hc o1
  have zs : shN I2 K1 v n = 0 := by
    have e : shN I2 K1 v n = suN (fun _ => 0) 9 := suN_congr 9 (fun o ho => by rw [z1 o ho, zm, Int.mul_zero, Int.mul_zero]; rfl)
    rw [e, suN_zero]
  have em : mI K2 v n = mI K v n := by rw [s1, zm, ← hab, u3, Int.zero_add]
  refine ⟨fun k hk => ?_, fun m hm => ?_, by omega, by omega, o2, by omega⟩
  · have o1' : ∀ o, o < 9 → sI K2 v n o = sI K v n o + (sgI u.toInt * (gN u.toInt.natAbs (fromM I2 v n) (suM I2 n) (loF I0 v n) o : Nat) - sI K v n o) := fun o ho => by
      rw [o1 o ho, z1 o ho]
      omega
    have a1 := row_in hn o1' o2 hk
    have a2 : rI K2 v k = rI K v k - sI K v n k + sgI u.toInt * (gN u.toInt.natAbs (fromM I2 v n) (suM I2 n) (loF I0 v n) k : Nat) := by
      obtain ⟨g1, g2⟩ := g k hk
      have r1 := rK k hk
      have r2 := sK k hk
      have e1 : (K 105 (9 * v + k) - K 107 (81 * v + 9 * n + k)).toInt = (K 105 (9 * v + k)).toInt - (K 107 (81 * v + 9 * n + k)).toInt := i64_sub (by omega) (by omega)
      unfold rI sI
      rw [c1 k hk, k1 k hk, if_pos hk, ← g1, i64_add (by omega) (by omega), e1]
    unfold yI
    rw [a1, a2]
    omega
  · by_cases q : m = n
    · rw [q]; exact em
    · exact row_o o2 hm q
theorem dfN_congr {d : Int} {J J' : SJ} {v : Nat} (h1 : ∀ k, k < 9 → yI J' v k = yI J v k) (h2 : ∀ m, m < 9 → mI J' v m = mI J v m) : dfN d J' v = dfN d J v ∧ amN J' v = amN J v := ⟨suN_congr 9 (fun n hn => by rw [h1 n hn, h2 n hn]), suN_congr 9 (fun n hn => by rw [h2 n hn])⟩
/-- all nodes of a walk mended -/
theorem md_all {I0 I2 : SI} {J : SJ} {v : Nat} (hR : RelN I0 I2) (hW : W99 I0) (hv : v < 4) (hr : rN J v + 2 * ssN J v ≤ 1000000000000) : ∀ n, n ≤ 9 →
    (∀ k, k < 9 → yI (mdM I2 (loF I0) J v n) v k = yI J v k) ∧ (∀ m, m < 9 → mI (mdM I2 (loF I0) J v n) v m = mI J v m) ∧ rN (mdM I2 (loF I0) J v n) v ≤ rN J v + suN (fun m => seN J v m + (mI J v m).natAbs) n ∧ (∀ m, m < n → shN I2 (mdM I2 (loF I0) J v n) v m ≤ (suM I2 m).toInt.toNat * 10) ∧ (∀ m o, m < 9 → n ≤ m → o < 9 → sI (mdM I2 (loF I0) J v n) v m o = sI J v m o) ∧ (∀ m, m < n → (mI J v m).natAbs ≤ seN J v m) ∧ ssN (mdM I2 (loF I0) J v n) v ≤ 2 * ssN J v + 10 * n
  | 0, _ => ⟨fun _ _ => rfl, fun _ _ => rfl, Nat.le_refl _, fun m hm => absurd hm (Nat.not_lt_zero _), fun _ _ _ _ _ => rfl, fun m hm => absurd hm (Nat.not_lt_zero _), by show ssN J v ≤ _; omega⟩
  | n + 1, hn => by
    obtain ⟨i1, i2, i3, i4, i5, i6, i7⟩ := md_all hR hW hv hr n (by omega)
    have hn9 : n < 9 := by omega
    have hse : seN (mdM I2 (loF I0) J v n) v n = seN J v n := suN_congr 9 (fun o ho => by
      have := i5 n o hn9 (Nat.le_refl _) ho
      unfold sI at this
      rw [this])
    have hs1 : seN J v n ≤ ssN J v := suN_at (f := seN J v) 9 n hn9
    have hm1 : suN (fun m => seN J v m + (mI J v m).natAbs) n ≤ suN (fun m => seN J v m + seN J v m) n := suN_le n (fun m hm => by have := i6 m hm; omega)
    rw [suN_add (seN J v) (seN J v)] at hm1
    have mono := suN_mono (f := seN J v) n (9 - n)
    rw [show n + (9 - n) = 9 from by omega] at mono
    have mono' : suN (seN J v) n ≤ ssN J v := mono
    obtain ⟨a1, a2, a3, a4, a5, a6⟩ := md_one (K := mdM I2 (loF I0) J v n) (K2 := mdM I2 (loF I0) J v (n + 1)) hR hW hv hn9 (by omega) (by omega) (by omega) rfl
    rw [hse, i2 n hn9] at a3 a6
    have oth : ∀ m, m < 9 → m ≠ n → shN I2 (mdM I2 (loF I0) J v (n + 1)) v m = shN I2 (mdM I2 (loF I0) J v n) v m := fun m hm hmn => suN_congr 9 (fun o ho => by rw [a5 m o hm hmn ho, a2 m hm])
    refine ⟨fun k hk => (a1 k hk).trans (i1 k hk), fun m hm => (a2 m hm).trans (i2 m hm), ?_, fun m hm => ?_, fun m o hm hnm ho => (a5 m o hm (by omega) ho).trans (i5 m o hm (by omega) ho), fun m hm => ?_, ?_⟩
    · have e : suN (fun m => seN J v m + (mI J v m).natAbs) (n + 1) = seN J v n + (mI J v n).natAbs + suN (fun m => seN J v m + (mI J v m).natAbs) n := rfl
      rw [e]
      omega
    · by_cases q : m = n
      · rw [q]; exact a4
      · rw [oth m (by omega) q]
        exact i4 m (by omega)
    · by_cases q : m = n
      · rw [q]; exact a6
      · exact i6 m (by omega)
    · have l1 := sh_se (wt_of hR hW hv hn9) a4
      rw [a2 n hn9, i2 n hn9] at l1
      have l2 : ssN (mdM I2 (loF I0) J v (n + 1)) v ≤ suN (fun m => seN (mdM I2 (loF I0) J v n) v m + (if m = n then 10 else 0)) 9 := suN_le 9 (fun m hm => by
        by_cases q : m = n
        · rw [if_pos q, q, hse]
          omega
        · rw [if_neg q]
          have e : seN (mdM I2 (loF I0) J v (n + 1)) v m = seN (mdM I2 (loF I0) J v n) v m := suN_congr 9 (fun o ho => by
            have := a5 m o hm q ho
            unfold sI at this
            rw [this])
          omega)
      rw [suN_add, suN_one, if_pos hn9] at l2
      unfold ssN at i7 l2 ⊢
      omega
/-- a walk mended: what it is ready for -/
theorem mend_dr {I0 I2 : SI} {J : SJ} {v b E C : Nat} {d : Int} (hR : RelN I0 I2) (hW : W99 I0) (hv : v < 4) (h1 : 50 ≤ d) (h2 : d ≤ 90) (h : Dr d b E C J v) (hb : b ≤ 100000) (hE : E ≤ 6000000000) (hC : C ≤ 200000000) :
    dfN d (mdM I2 (loF I0) J v 9) v ≤ 9 * (100 - d).toNat * E ∧ (∀ n, n < 9 → shN I2 (mdM I2 (loF I0) J v 9) v n ≤ (suM I2 n).toInt.toNat * 10) ∧ rN (mdM I2 (loF I0) J v 9) v ≤ 18 * E + 19 * C + 18000000 + 171 * b ∧ ssN (mdM I2 (loF I0) J v 9) v ≤ 1000000000000 := by
  obtain ⟨d1, d2, d3⟩ := h
  have am := am_le hv h1 h2 d1 d2 d3
  obtain ⟨a1, a2, a3, a4, -, a6, a7⟩ := md_all (I2 := I2) (J := J) hR hW hv (by omega) 9 (Nat.le_refl _)
  obtain ⟨e1, e2⟩ := dfN_congr (d := d) a1 a2
  rw [suN_add] at a3
  refine ⟨by rw [e1]; exact d1, a4, ?_, by omega⟩
  unfold ssN at d2
  unfold amN at d2 am
  omega
