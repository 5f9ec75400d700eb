/-! the matrix as it is filled -/
theorem zD_int {i : Int} {a : UInt64} (h : FP.Core.DInt i a) : fD a ∧ zD a = i * (uD : Int) := by
  unfold FP.Core.DInt at h
  cases e : FP.Core.val64 a with
  | nan => rw [e] at h; exact absurd h (fun z => z)
  | inf s => rw [e] at h; exact absurd h (fun z => z)
  | fin s c q =>
    rw [e] at h
    have h : FP.Core.signed s (c * 2 ^ q.toNat) = i * ((2 ^ (-q).toNat : Nat) : Int) := h
    obtain ⟨z1, z2⟩ := zD_fin e
    refine ⟨⟨s, c, q, e⟩, ?_⟩
    rw [z1]
    unfold FP.Core.inUnits
    have hp : (2 ^ (-q).toNat : Nat) ≠ 0 := by have := Nat.two_pow_pos (-q).toNat; omega
    have key : FP.Core.signed s (c * 2 ^ (q - -1074).toNat) * ((2 ^ (-q).toNat : Nat) : Int) = i * (uD : Int) * ((2 ^ (-q).toNat : Nat) : Int) := by
      have e1 : c * 2 ^ (q - -1074).toNat * 2 ^ (-q).toNat = c * 2 ^ q.toNat * uD := by
        rw [uD_eq, Nat.mul_assoc, Nat.mul_assoc, ← Nat.pow_add, ← Nat.pow_add]
        rw [show (q - -1074).toNat + (-q).toNat = q.toNat + 1074 from by omega]
      rw [← FP.Core.signed_mul, e1, FP.Core.signed_mul, h]
      rw [Int.mul_assoc, Int.mul_assoc, Int.mul_comm (uD : Int)]
    exact Int.eq_of_mul_eq_mul_right (by omega) key
theorem zD_i2d (v : Int32) : fD (FP.i2d v) ∧ zD (FP.i2d v) = v.toInt * (uD : Int) := zD_int (FP.Core.i2d_int v)
theorem i2d_1 : FP.i2d 1 = FP.dconst1 := by decide +kernel
theorem i2d_0 : FP.i2d 0 = FP.dconst0 := by decide +kernel
theorem i2d_100 : FP.i2d 100 = 4636737291354636288 := by decide +kernel
theorem z_one : fD FP.dconst1 ∧ zD FP.dconst1 = (uD : Int) := by
  have := zD_i2d 1
  rw [i2d_1] at this
  exact ⟨this.1, by rw [this.2]; show (1 : Int) * _ = _; exact Int.one_mul _⟩
theorem z_zero : fD FP.dconst0 ∧ zD FP.dconst0 = 0 := by
  have := zD_i2d 0
  rw [i2d_0] at this
  exact ⟨this.1, by rw [this.2]; show (0 : Int) * _ = _; exact Int.zero_mul _⟩
/-- the damping, in units -/
theorem dm_z {d : Int32} (h1 : 50 ≤ d.toInt) (h2 : d.toInt ≤ 90) : fD (dmF d) ∧ (zD (dmF d)).natAbs * 10 ≤ 9 * uD + 10 * gD := by
  obtain ⟨a1, a2⟩ := zD_i2d d
  obtain ⟨b1, b2⟩ := zD_i2d 100
  rw [i2d_100] at b1 b2
  have b2 : zD 4636737291354636288 = 100 * (uD : Int) := b2
  have up := uD_pos
  have hug := ug
  obtain ⟨c1, c2⟩ := ddiv_z a1 b1 (by omega) (by
    rw [a2, b2, Int.natAbs_mul, Int.natAbs_mul, Int.natAbs_natCast]
    have e1 : d.toInt.natAbs * uD * uD ≤ 90 * uD * uD := Nat.mul_le_mul_right _ (Nat.mul_le_mul_right _ (by omega))
    have e2 : 90 * uD * uD < 8192 * uD * ((100 : Int).natAbs * uD) := by
      show 90 * uD * uD < 8192 * uD * (100 * uD)
      rw [Nat.mul_assoc, Nat.mul_assoc, Nat.mul_left_comm uD 100]
      have : 0 < uD * uD := Nat.mul_pos up up
      omega
    omega)
  refine ⟨c1, ?_⟩
  rw [a2, b2] at c2
  have c2 : (zD (dmF d) * (100 * (uD : Int)) - d.toInt * (uD : Int) * (uD : Int)).natAbs ≤ gD * (100 * (uD : Int)).natAbs := c2
  have e3 : zD (dmF d) * (100 * (uD : Int)) - d.toInt * (uD : Int) * (uD : Int) = (zD (dmF d) * 100 - d.toInt * (uD : Int)) * (uD : Int) := by
    rw [Int.sub_mul, Int.mul_assoc (zD (dmF d))]
  have e4 : gD * (100 * (uD : Int)).natAbs = 100 * gD * uD := by
    rw [Int.natAbs_mul, Int.natAbs_natCast]
    show gD * (100 * uD) = _
    rw [Nat.mul_left_comm, Nat.mul_assoc]
  rw [e3, e4, Int.natAbs_mul, Int.natAbs_natCast] at c2
  have c3 := Nat.le_of_mul_le_mul_right c2 up
  have c4 : (d.toInt * (uD : Int)).natAbs ≤ 90 * uD := by
    rw [Int.natAbs_mul, Int.natAbs_natCast]
    exact Nat.mul_le_mul_right _ (by omega)
  omega
section Fill
variable {I0 I1 : SI} {r : Nat}
/-- the parts that a node sends: one in all, at most -/
theorem ps_z (hF : NetFull I0 I1) (hW : W99 I0) {n : Nat} (hn : n < 9) (hr : r < 4) : (∀ o, o < 9 → fD (psF I1 r n o) ∧ (¬ I1 29 n = 0 → dvOK (FP.i2d (I1 (9 + n) o)) (FP.i2d (I1 29 n)))) ∧ suN (fun o => (zD (psF I1 r n o)).natAbs) 9 ≤ uD + 9 * gD := by
  have up := uD_pos
  have hug := ug
  obtain ⟨g1, -, -, g4⟩ := hF n hn
  by_cases c : I1 29 n = 0
  · refine ⟨fun o ho => ⟨?_, fun z => absurd c z⟩, ?_⟩
    · unfold psF
      rw [if_pos c]
      split
      · exact z_one.1
      · exact z_zero.1
    · have e : suN (fun o => (zD (psF I1 r n o)).natAbs) 9 = suN (fun o => if o = r then uD else 0) 9 := suN_congr 9 (fun o ho => by
        unfold psF
        rw [if_pos c]
        by_cases q : o = r
        · rw [if_pos q, if_pos q, z_one.2]
          exact Int.natAbs_natCast _
        · rw [if_neg q, if_neg q, z_zero.2]
          rfl)
      rw [e, suN_one, if_pos (by omega)]
      omega
  · have h0 : ¬ sM I0 n 9 = 0 := by rw [← g4]; exact c
    have hc : cN I0 n 9 ≠ 0 := fun z => h0 ((s9_ne hW hn).mpr z)
    have spos := i32_pos.mp ((s9_pos hW hn).mpr (by omega))
    obtain ⟨-, sle, -, -⟩ := sM_bd hW hn 9 (Nat.le_refl _)
    obtain ⟨t, ht⟩ : ∃ t : Nat, t = (sM I0 n 9).toInt.toNat := ⟨_, rfl⟩
    have ht2 : (sM I0 n 9).toInt = (t : Int) := by omega
    obtain ⟨b1, b2⟩ := zD_i2d (sM I0 n 9)
    rw [ht2] at b2
    have tu : 0 < t * uD := Nat.mul_pos (by omega) up
    have bn : (zD (FP.i2d (sM I0 n 9))).natAbs = t * uD := by rw [b2, ← Int.natCast_mul, Int.natAbs_natCast]
    have dv : ∀ o, o < 9 → fD (FP.ddiv (FP.i2d (wM I0 n o)) (FP.i2d (sM I0 n 9))) ∧ (zD (FP.ddiv (FP.i2d (wM I0 n o)) (FP.i2d (sM I0 n 9)))).natAbs * t ≤ (wM I0 n o).toInt.toNat * uD + gD * t := fun o ho => by
      obtain ⟨a1, a2⟩ := zD_i2d (wM I0 n o)
      obtain ⟨w1, w2⟩ := wM_bd hW hn ho
      have w3 := wM_sM hW hn ho
      obtain ⟨c1, c2⟩ := ddiv_z a1 b1 (by omega) (by
        rw [bn, a2, Int.natAbs_mul, Int.natAbs_natCast]
        have e1 : (wM I0 n o).toInt.natAbs * uD * uD ≤ t * uD * uD := Nat.mul_le_mul_right _ (Nat.mul_le_mul_right _ (by omega))
        have e2 : t * uD * uD < 8192 * uD * (t * uD) := by
          rw [Nat.mul_assoc 8192, Nat.mul_comm uD (t * uD)]
          have : 0 < t * uD * uD := Nat.mul_pos tu up
          omega
        omega)
      refine ⟨c1, ?_⟩
      rw [bn, a2, b2] at c2
      have e3 : zD (FP.ddiv (FP.i2d (wM I0 n o)) (FP.i2d (sM I0 n 9))) * ((t : Int) * (uD : Int)) - (wM I0 n o).toInt * (uD : Int) * (uD : Int) = (zD (FP.ddiv (FP.i2d (wM I0 n o)) (FP.i2d (sM I0 n 9))) * (t : Int) - (wM I0 n o).toInt * (uD : Int)) * (uD : Int) := by
        rw [Int.sub_mul, Int.mul_assoc (zD (FP.ddiv (FP.i2d (wM I0 n o)) (FP.i2d (sM I0 n 9))))]
      rw [e3, ← Nat.mul_assoc, Int.natAbs_mul, Int.natAbs_natCast] at c2
      have c3 := Nat.le_of_mul_le_mul_right c2 up
      have c4 : ((wM I0 n o).toInt * (uD : Int)).natAbs = (wM I0 n o).toInt.toNat * uD := by
        rw [Int.natAbs_mul, Int.natAbs_natCast]
        congr 1
        omega
      have c5 : (zD (FP.ddiv (FP.i2d (wM I0 n o)) (FP.i2d (sM I0 n 9)))).natAbs * t = (zD (FP.ddiv (FP.i2d (wM I0 n o)) (FP.i2d (sM I0 n 9))) * (t : Int)).natAbs := by
        rw [Int.natAbs_mul, Int.natAbs_natCast]
      omega
    have ep : ∀ o, o < 9 → psF I1 r n o = FP.ddiv (FP.i2d (wM I0 n o)) (FP.i2d (sM I0 n 9)) := fun o ho => by
      unfold psF
      rw [if_neg c, g1 o ho, g4]
    refine ⟨fun o ho => ⟨by rw [ep o ho]; exact (dv o ho).1, fun _ => ?_⟩, ?_⟩
    · rw [g1 o ho, g4]
      exact ⟨cmp_ne b1 (by omega), n64_of (dv o ho).1⟩
    · have h1 : suN (fun o => t * (zD (psF I1 r n o)).natAbs) 9 ≤ suN (fun o => uD * (wM I0 n o).toInt.toNat + gD * t) 9 := suN_le 9 (fun o ho => by
        rw [ep o ho, Nat.mul_comm t, Nat.mul_comm uD]
        exact (dv o ho).2)
      rw [suN_mul, suN_add, suN_mul] at h1
      have key : ∀ m, m ≤ 9 → ((suN (fun o => (wM I0 n o).toInt.toNat) m : Nat) : Int) = (sM I0 n m).toInt := by
        intro m
        induction m with
        | zero => intro _; rfl
        | succ m ih =>
          intro hm
          have h1 := ih (by omega)
          obtain ⟨d1, d2⟩ := wM_bd hW hn (o := m) (by omega)
          obtain ⟨a, b, -, -⟩ := sM_bd hW hn m (by omega)
          have e3 : (sM I0 n (m + 1)).toInt = (sM I0 n m).toInt + (wM I0 n m).toInt := i32_add (by omega) (by omega)
          unfold suN
          rw [e3]
          omega
      have k9 := key 9 (Nat.le_refl _)
      have e9 : suN (fun _ => gD * t) 9 = t * (9 * gD) := by
        simp only [suN]
        rw [Nat.mul_left_comm, Nat.mul_comm t gD]
        omega
      have ek : suN (fun o => (wM I0 n o).toInt.toNat) 9 = t := by omega
      rw [ek, e9, Nat.mul_comm uD t, ← Nat.mul_add] at h1
      exact Nat.le_of_mul_le_mul_left h1 (by omega)
/-- the filled matrix -/
def flM (I : SI) (r : Nat) (dm : UInt64) (i j : Nat) : UInt64 := ms (dgF i j) dm (psF I r j i)
theorem dg_z (i j : Nat) : fD (dgF i j) ∧ zD (dgF i j) = if i = j then (uD : Int) else 0 := by
  unfold dgF
  by_cases q : i = j
  · rw [if_pos q, if_pos q]; exact z_one
  · rw [if_neg q, if_neg q]; exact z_zero
theorem fill_ok (hF : NetFull I0 I1) (hW : W99 I0) (hr : r < 4) {d : Int32} (h1 : 50 ≤ d.toInt) (h2 : d.toInt ≤ 90) : (∀ i j, i < 9 → j < 9 → msOK (dgF i j) (dmF d) (psF I1 r j i)) ∧ inM 0 (flM I1 r (dmF d)) := by
  have up := uD_pos
  have gp := gD_pos
  have hug := ug
  obtain ⟨m1, m2⟩ := dm_z h1 h2
  have pr : ∀ j, j < 9 → (∀ i, i < 9 → fD (FP.dmul (dmF d) (psF I1 r j i))) ∧ 10 * suN (fun i => (zD (FP.dmul (dmF d) (psF I1 r j i))).natAbs) 9 ≤ 9 * uD + 200 * gD := fun j hj => by
    obtain ⟨p1, p2⟩ := ps_z (r := r) hF hW hj hr
    have pl : ∀ i, i < 9 → (zD (psF I1 r j i)).natAbs ≤ uD + 9 * gD := fun i hi => by
      have := suN_at (f := fun o => (zD (psF I1 r j o)).natAbs) 9 i hi
      omega
    have dv : ∀ i, i < 9 → fD (FP.dmul (dmF d) (psF I1 r j i)) ∧ (zD (FP.dmul (dmF d) (psF I1 r j i)) * (uD : Int) - zD (dmF d) * zD (psF I1 r j i)).natAbs ≤ gD * uD := fun i hi => dmul_z m1 (p1 i hi).1 (by
      rw [Int.natAbs_mul]
      have e1 : (zD (dmF d)).natAbs * (zD (psF I1 r j i)).natAbs ≤ 2 * uD * (2 * uD) := Nat.mul_le_mul (by omega) (by have := pl i hi; omega)
      have e2 : 2 * uD * (2 * uD) < 8192 * uD * uD := by
        rw [Nat.mul_assoc, Nat.mul_left_comm uD 2, Nat.mul_assoc]
        have : 0 < uD * uD := Nat.mul_pos up up
        omega
      omega)
    refine ⟨fun i hi => (dv i hi).1, ?_⟩
    have h3 : suN (fun i => uD * (zD (FP.dmul (dmF d) (psF I1 r j i))).natAbs) 9 ≤ suN (fun i => (zD (dmF d)).natAbs * (zD (psF I1 r j i)).natAbs + gD * uD) 9 := suN_le 9 (fun i hi => by
      have c := (dv i hi).2
      have e1 : uD * (zD (FP.dmul (dmF d) (psF I1 r j i))).natAbs = (zD (FP.dmul (dmF d) (psF I1 r j i)) * (uD : Int)).natAbs := by rw [Int.natAbs_mul, Int.natAbs_natCast, Nat.mul_comm]
      have e2 : (zD (dmF d)).natAbs * (zD (psF I1 r j i)).natAbs = (zD (dmF d) * zD (psF I1 r j i)).natAbs := by rw [Int.natAbs_mul]
      rw [e1, e2]
      omega)
    rw [suN_mul, suN_add, suN_mul] at h3
    have e9 : suN (fun _ => gD * uD) 9 = 9 * (gD * uD) := by simp only [suN]; omega
    rw [e9] at h3
    generalize suN (fun i => (zD (FP.dmul (dmF d) (psF I1 r j i))).natAbs) 9 = P at *
    generalize suN (fun o => (zD (psF I1 r j o)).natAbs) 9 = S at *
    generalize (zD (dmF d)).natAbs = m at *
    have k1 : m * S ≤ m * (uD + 9 * gD) := Nat.mul_le_mul_left _ p2
    have k2 : m * 10 * (uD + 9 * gD) ≤ (9 * uD + 10 * gD) * (uD + 9 * gD) := Nat.mul_le_mul_right _ m2
    have k3 : (9 * uD + 10 * gD) * (uD + 9 * gD) ≤ 9 * (uD * uD) + 100 * (gD * uD) := by
      have e1 : (9 * uD + 10 * gD) * (uD + 9 * gD) = 9 * (uD * uD) + 81 * (gD * uD) + 10 * (gD * uD) + 90 * (gD * gD) := by grind
      have e2 : 1099511627776 * (gD * gD) ≤ gD * uD := by
        rw [hug, Nat.mul_left_comm]
        exact Nat.le_refl _
      omega
    have k4 : 10 * (m * S) ≤ 9 * (uD * uD) + 100 * (gD * uD) := by
      have : 10 * (m * (uD + 9 * gD)) = m * 10 * (uD + 9 * gD) := by rw [Nat.mul_comm m 10, Nat.mul_assoc]
      omega
    have k5 : uD * (10 * P) ≤ uD * (9 * uD + 200 * gD) := by
      have e1 : uD * (10 * P) = 10 * (uD * P) := Nat.mul_left_comm _ _ _
      have e2 : uD * (9 * uD + 200 * gD) = 9 * (uD * uD) + 200 * (gD * uD) := by grind
      rw [e1, e2]
      omega
    exact Nat.le_of_mul_le_mul_left k5 up
  have en : ∀ i j, i < 9 → j < 9 → fD (flM I1 r (dmF d) i j) ∧ (zD (flM I1 r (dmF d) i j) - (if i = j then (uD : Int) else 0)).natAbs ≤ (zD (FP.dmul (dmF d) (psF I1 r j i))).natAbs + gD := fun i j hi hj => by
    obtain ⟨p1, p2⟩ := pr j hj
    obtain ⟨g1, g2⟩ := dg_z i j
    have pl := suN_at (f := fun i => (zD (FP.dmul (dmF d) (psF I1 r j i))).natAbs) 9 i hi
    have gl : (zD (dgF i j)).natAbs ≤ uD := by rw [g2]; split <;> omega
    obtain ⟨s1, s2⟩ := dsub_z g1 (p1 i hi) (by omega)
    rw [g2] at s2
    refine ⟨s1, ?_⟩
    unfold flM ms
    omega
  have col : ∀ j, j < 9 → ((colS (flM I1 r (dmF d)) 0 j + 68719476736 * gD : Nat) : Int) ≤ zD (flM I1 r (dmF d) j j) ∧ zD (flM I1 r (dmF d) j j) + (colS (flM I1 r (dmF d)) 0 j : Int) ≤ ((2199023255552 * gD : Nat) : Int) := fun j hj => by
    obtain ⟨-, p2⟩ := pr j hj
    have dj := (en j j hj hj).2
    rw [if_pos rfl] at dj
    have hle : colS (flM I1 r (dmF d)) 0 j ≤ suN (fun i => if i = j then 0 else (zD (FP.dmul (dmF d) (psF I1 r j i))).natAbs + gD) 9 := suN_le 9 (fun i hi => by
      by_cases q : i = j
      · rw [if_neg (fun z => z.2 q), if_pos q]
        exact Nat.le_refl _
      · rw [if_pos ⟨Nat.zero_le _, q⟩, if_neg q]
        have := (en i j hi hj).2
        rw [if_neg q] at this
        unfold zN
        omega)
    have cq := suN_cut (f := fun i => (zD (FP.dmul (dmF d) (psF I1 r j i))).natAbs + gD) (n := j) 9
    rw [if_pos hj, suN_add] at cq
    have e9 : suN (fun _ => gD) 9 = 9 * gD := by simp only [suN]; omega
    constructor <;> omega
  refine ⟨fun i j hi hj => ⟨n64_of ((pr j hj).1 i hi), n64_of (en i j hi hj).1⟩, fun i j hi hj => ⟨(en i j hi hj).1, ?_⟩, fun j hj => ?_, fun j _ hj => ?_⟩
  · have e := (en i j hi hj).2
    have pl := suN_at (f := fun i => (zD (FP.dmul (dmF d) (psF I1 r j i))).natAbs) 9 i hi
    have := (pr j hj).2
    unfold zN
    by_cases q : i = j
    · rw [if_pos q] at e; omega
    · rw [if_neg q] at e; omega
  · have := (col j hj).1
    omega
  · have := col j hj
    rw [Nat.mul_zero, Nat.sub_zero, Nat.add_zero]
    exact this
end Fill
