/-! a settling keeps the drift's numbers -/
theorem loM_f2 {I I' : SI} (e : ∀ a b, a ≠ 102 → I' a b = I a b) (n m : Nat) : loM I' n m = loM I n m := by
  unfold loM loR
  simp only [e 104 _ (by decide), e 103 _ (by decide)]
theorem alM_f2 {I I' : SI} (e : ∀ a b, a ≠ 102 → I' a b = I a b) (n : Nat) : ∀ m, alM I' n m = alM I n m
  | 0 => rfl
  | m + 1 => by unfold alM; rw [alM_f2 e n m, loM_f2 e]
theorem fromM_f2 {I I' : SI} (e : ∀ a b, a ≠ 102 → I' a b = I a b) (v n : Nat) : fromM I' v n = fromM I v n := by
  funext m
  unfold fromM allM
  rw [alM_f2 e, loM_f2 e]
theorem suM_f2 {I I' : SI} (e : ∀ a b, a ≠ 102 → I' a b = I a b) (n : Nat) : suM I' n = suM I n := by
  unfold suM allM
  rw [alM_f2 e]
theorem sgI_or (u : Int) : sgI u = 1 ∨ sgI u = -1 := by
  unfold sgI
  split
  · exact Or.inl rfl
  · exact Or.inr rfl
/-- how far what is kept is from its hundredths -/
theorem keep_df {a : Nat} {d : Int32} (h1 : 50 ≤ d.toInt) (h2 : d.toInt ≤ 90) : (100 * (keepU a d : Int) - d.toInt * (a : Nat)).natAbs ≤ 9 * (100 - d.toInt).toNat := by
  obtain ⟨k1, -⟩ := keepU_ok (a := a) h1 h2
  obtain ⟨q, hq⟩ : ∃ q : Nat, q = (100 - d.toInt).toNat := ⟨_, rfl⟩
  have hd : d.toInt = 100 - (q : Int) := by omega
  rw [← hq] at k1 ⊢
  have hdm := Nat.div_add_mod (a * q) 100
  have hlt := Nat.mod_lt (a * q) (show 100 > 0 by decide)
  rw [hd, Int.sub_mul]
  have e2 : (q : Int) * (a : Nat) = ((a * q : Nat) : Int) := by rw [Int.natCast_mul, Int.mul_comm]
  rw [e2]
  generalize hx : a * q = x at *
  by_cases h10 : q = 10
  · subst h10
    omega
  · omega
section Keeps
variable {I0 : SI} {v : Nat} {p : SI × SJ}
theorem push_dr (h : reS I0 v p) {I : SI} (hI : ∀ a b, a ≠ 102 → p.1 a b = I a b) (hn : nsM v p) : dfN (p.1 102 2).toInt (stpM (loF I0) v p).2 v ≤ dfN (p.1 102 2).toInt p.2 v + 9 * (100 - (p.1 102 2).toInt).toNat ∧
    (∀ m, m < 9 → shN I (stpM (loF I0) v p).2 v m ≤ shN I p.2 v m + (if m = ndM v p then (suM I m).toInt.toNat * 10 else 0)) := by
  obtain ⟨n9, n1, n2⟩ := nd_ok h hn
  obtain ⟨hW, hv, hR, h1, h2, hb, hS, hE⟩ := h
  have hwt := wt_of hR hW hv n9
  have hlo : loF I0 v (ndM v p) < 9 := lo_9 hv
  obtain ⟨p1, p2, p3⟩ := push_all (lo := loF I0) hv n9 hlo hwt h1 h2 hS (by omega) (by omega)
  have hc := cw_5 hR hW hv n9
  have e2 : (stpM (loF I0) v p).2 = pushM p.1 (loF I0) p.2 v (ndM v p) := rfl
  rw [e2]
  rw [fromM_f2 hI, suM_f2 hI] at p1 p2 hwt
  rw [fromM_f2 hI] at hc
  generalize hJ : pushM p.1 (loF I0) p.2 v (ndM v p) = J' at *
  generalize hnd : ndM v p = n at *
  have hsg := sgI_or (p.2 105 (9 * v + n)).toInt
  have hab := sgI_abs (p.2 105 (9 * v + n)).toInt
  have kd := keep_df (a := (p.2 105 (9 * v + n)).toInt.natAbs) h1 h2
  generalize hsgq : sgI (p.2 105 (9 * v + n)).toInt = sg at *
  have o2 : ∀ m o, m < 9 → m ≠ n → o < 9 → sI J' v m o = sI p.2 v m o := fun m o hm hmn ho => by
    unfold sI
    rw [p3 m o hm hmn ho]
  have o1 : ∀ o, o < 9 → sI J' v n o = sI p.2 v n o + sg * (gN (keepU (p.2 105 (9 * v + n)).toInt.natAbs (p.1 102 2)) (fromM I v n) (suM I n) (loF I0 v n) o : Nat) := p2
  obtain ⟨s1, s2⟩ := sh_gift hsg hwt hlo hc o1
  have yy : ∀ k, k < 9 → yI J' v k = yI p.2 v k + (if k = n then (p.2 105 (9 * v + n)).toInt else 0) := fun k hk => by
    have a1 := row_in n9 o1 o2 hk
    have a2 : rI J' v k = (if k = n then 0 else rI p.2 v k) + sg * (gN (keepU (p.2 105 (9 * v + n)).toInt.natAbs (p.1 102 2)) (fromM I v n) (suM I n) (loF I0 v n) k : Nat) := p1 k hk
    unfold yI
    rw [a1, a2]
    by_cases q : k = n
    · rw [if_pos q, if_pos q, q]
      unfold rI
      omega
    · rw [if_neg q, if_neg q]
      omega
  refine ⟨?_, fun m hm => ?_⟩
  · have hle : dfN (p.1 102 2).toInt J' v ≤ suN (fun m => (100 * mI p.2 v m - (p.1 102 2).toInt * yI p.2 v m).natAbs + (if m = n then 9 * (100 - (p.1 102 2).toInt).toNat else 0)) 9 := by
      refine suN_le 9 (fun m hm => ?_)
      rw [yy m hm]
      by_cases q : m = n
      · rw [if_pos q, if_pos q, q, s1, Int.mul_add, Int.mul_add]
        generalize (p.1 102 2).toInt * yI p.2 v n = y
        have e3 : (p.1 102 2).toInt * (p.2 105 (9 * v + n)).toInt = sg * ((p.1 102 2).toInt * ((p.2 105 (9 * v + n)).toInt.natAbs : Nat)) := by
          conv => lhs; rw [hab]
          rw [Int.mul_left_comm]
        rw [e3]
        generalize (p.1 102 2).toInt * (((p.2 105 (9 * v + n)).toInt.natAbs : Nat) : Int) = z at *
        rcases hsg with w | w
        · rw [w, Int.one_mul, Int.one_mul]
          omega
        · rw [w, Int.neg_mul, Int.neg_mul, Int.one_mul, Int.one_mul]
          omega
      · rw [if_neg q, if_neg q, row_o o2 hm q, Int.add_zero, Nat.add_zero]
        exact Nat.le_refl _
    rw [suN_add, suN_one, if_pos n9] at hle
    exact hle
  · by_cases q : m = n
    · rw [if_pos q, q]
      exact s2
    · rw [if_neg q, Nat.add_zero]
      refine suN_le 9 (fun o ho => ?_)
      rw [o2 m o hm q ho, row_o o2 hm q]
      exact Nat.le_refl _
theorem trj_dr (h : reS I0 v p) {c0 : Nat} (hs : ∀ n, n < 9 → shN p.1 p.2 v n ≤ (suM p.1 n).toInt.toNat * c0) : ∀ t, (∀ x, x < t → nsM v (trj (loF I0) v x p)) →
    dfN (p.1 102 2).toInt (trj (loF I0) v t p).2 v ≤ dfN (p.1 102 2).toInt p.2 v + 9 * (100 - (p.1 102 2).toInt).toNat * t ∧ ∃ c : Nat → Nat, suN c 9 = 9 * c0 + 10 * t ∧ ∀ n, n < 9 → shN p.1 (trj (loF I0) v t p).2 v n ≤ (suM p.1 n).toInt.toNat * c n
  | 0, _ => ⟨Nat.le_refl _, fun _ => c0, by simp only [suN]; omega, hs⟩
  | t + 1, hn => by
    obtain ⟨i1, c, i2, i3⟩ := trj_dr h hs t (fun x hx => hn x (by omega))
    obtain ⟨a1, a2, a3, a4⟩ := trj_ok h t (fun x hx => hn x (by omega))
    have hI : ∀ a b, a ≠ 102 → (trj (loF I0) v t p).1 a b = p.1 a b := fun a b q => a4 a b (fun z => q z.1)
    obtain ⟨b1, b2⟩ := push_dr a1 hI (hn t (by omega))
    rw [a4 102 2 (by omega)] at b1
    have n9 := (nd_ok a1 (hn t (by omega))).1
    refine ⟨?_, fun m => c m + (if m = ndM v (trj (loF I0) v t p) then 10 else 0), ?_, fun n hn9 => ?_⟩
    · show dfN _ (stpM (loF I0) v (trj (loF I0) v t p)).2 v ≤ _
      rw [Nat.mul_succ]
      omega
    · rw [suN_add, suN_one, if_pos n9, i2]
      omega
    · have g1 := b2 n hn9
      have g2 := i3 n hn9
      show shN p.1 (stpM (loF I0) v (trj (loF I0) v t p)).2 v n ≤ (suM p.1 n).toInt.toNat * (c n + _)
      rw [Nat.mul_add]
      by_cases q : n = ndM v (trj (loF I0) v t p)
      · rw [if_pos q] at g1
        rw [if_pos q]
        omega
      · rw [if_neg q] at g1
        rw [if_neg q, Nat.mul_zero]
        omega
/-- between two calls -/
def Dr (d : Int) (b E C : Nat) (J : SJ) (v : Nat) : Prop := dfN d J v ≤ 9 * (100 - d).toNat * E ∧ ssN J v ≤ amN J v + C ∧ rN J v ≤ 9 * b
theorem run_dr (h : reS I0 v p) {E c0 F : Nat} {s : SI × SJ} (hE : dfN (p.1 102 2).toInt p.2 v ≤ 9 * (100 - (p.1 102 2).toInt).toNat * E) (hs : ∀ n, n < 9 → shN p.1 p.2 v n ≤ (suM p.1 n).toInt.toNat * c0) (hr : runM (loF I0) v F p.1 p.2 = some s) :
    ∃ t, t ≤ F ∧ (∀ i, (t - 2509) * ((p.1 102 3).toInt.toNat / 10 * h1D i) ≤ e8D i * (10 * rN p.2 v) + (p.1 102 3).toInt.toNat / 10 * kaD 5 i) ∧ Dr (p.1 102 2).toInt (p.1 102 3).toInt.toNat (E + t) (9 * c0 + 10 * t) s.2 v := by
  obtain ⟨t, t1, t2, t3, t4⟩ := run_some F p s hr
  obtain ⟨i1, c, i2, i3⟩ := trj_dr h hs t t4
  obtain ⟨a1, a2, a3, a4⟩ := trj_ok h t t4
  rw [← t2] at i1 i3 a1 a4
  refine ⟨t, t1, fun i => settle_cnt h t4 i, ?_, ?_, ?_⟩
  · rw [Nat.mul_add]
    omega
  · have hle : ssN s.2 v ≤ suN (fun n => (mI s.2 v n).natAbs + c n) 9 := suN_le 9 (fun n hn => by
      have hw := wt_of a1.2.2.1 a1.1 a1.2.1 hn
      have hI : ∀ a b, a ≠ 102 → s.1 a b = p.1 a b := fun a b q => a4 a b (fun z => q z.1)
      rw [fromM_f2 hI, suM_f2 hI] at hw
      exact sh_se hw (i3 n hn))
    rw [suN_add, i2] at hle
    exact hle
  · have hle : rN s.2 v ≤ suN (fun _ => (p.1 102 3).toInt.toNat) 9 := suN_le 9 (fun n hn => by
      have := nx_none 9 0 t3 (by omega) n (by omega) (by omega)
      rw [un_iff a1.2.2.2.2.2.1, a4 102 3 (by omega)] at this
      omega)
    simp only [suN] at hle
    omega
/-- it ends, where there are pushes enough -/
theorem run_end2 (h : reS I0 v p) {F : Nat} (i : Nat) (hF : e8D i * (10 * rN p.2 v) + (p.1 102 3).toInt.toNat / 10 * kaD 5 i < (F - 2509) * ((p.1 102 3).toInt.toNat / 10 * h1D i)) : ∃ s, runM (loF I0) v F p.1 p.2 = some s := by
  cases hr : runM (loF I0) v F p.1 p.2 with
  | some s => exact ⟨s, rfl⟩
  | none =>
    exfalso
    have hn := run_none F p hr
    have := settle_cnt h (t := F) (fun x hx => hn x (by omega)) i
    omega
end Keeps
