/-! elimination: no divisor is 0.0, no number is lost -/
theorem n64_of {a : UInt64} (h : fD a) : vf_n64 a := by
  have := (FP.Core.fin_bits a).mp h
  unfold vf_n64
  rw [UInt64.le_iff_toNat_le, UInt64.toNat_and]
  have h1 : (0x7fffffffffffffff : UInt64).toNat = 2 ^ 63 - 1 := by decide
  have h2 : (0x7ff0000000000000 : UInt64).toNat = 9218868437227405312 := by decide
  rw [h1, h2, Nat.and_two_pow_sub_one_eq_mod]
  omega
theorem cmp_ne {y : UInt64} (h : fD y) (hz : zD y ≠ 0) : ¬ Op.cmpValue (FP.dcmp y FP.dconst0) CmpOp.l = 0 := by
  have e : FP.dcmp y FP.dconst0 = some (compare (zD y) 0) := by
    have h0 : FP.Core.val64 FP.Core.dconst0 ≠ .nan := by rw [FP.Core.val64_dconst0]; exact FP.Core.Datum.noConfusion
    have := FP.Core.dcmp_zval (a := y) (b := FP.Core.dconst0) (FP.Core.DFin.ne_nan h) h0
    have e0 : FP.Core.zval FP.Core.b64 (FP.Core.val64 FP.Core.dconst0) = 0 := by
      rw [FP.Core.val64_dconst0]
      show FP.Core.signed false (0 * 2 ^ (FP.Core.b64.qmin - FP.Core.b64.qmin).toNat) = 0
      rw [Nat.zero_mul, FP.Core.signed_zero]
    rw [e0] at this
    exact this
  rw [e]
  rcases Int.lt_trichotomy (zD y) 0 with q | q | q
  · rw [Int.compare_eq_lt.mpr q]; decide
  · exact absurd q hz
  · rw [Int.compare_eq_gt.mpr q]; decide
section Elim
variable {M : Nat → Nat → UInt64} {b : Nat → UInt64} {k : Nat}
def mlt (M : Nat → Nat → UInt64) (k i : Nat) : UInt64 := FP.ddiv (M i k) (M k k)
def elM (M : Nat → Nat → UInt64) (k i j : Nat) : UInt64 := if k < i ∧ k ≤ j then ms (M i j) (mlt M k i) (M k j) else M i j
def elB (M : Nat → Nat → UInt64) (b : Nat → UInt64) (k i : Nat) : UInt64 := if k < i then ms (b i) (mlt M k i) (b k) else b i
noncomputable def zN (M : Nat → Nat → UInt64) (i j : Nat) : Nat := (zD (M i j)).natAbs
/-- a column below row k, without the diagonal -/
noncomputable def colS (M : Nat → Nat → UInt64) (k j : Nat) : Nat := suN (fun i => if k ≤ i ∧ i ≠ j then zN M i j else 0) 9
def inM (k : Nat) (M : Nat → Nat → UInt64) : Prop := (∀ i j, i < 9 → j < 9 → fD (M i j) ∧ zN M i j ≤ 4 * uD) ∧ (∀ j, j < 9 → ((34359738368 * gD : Nat) : Int) ≤ zD (M j j)) ∧ ∀ j, k ≤ j → j < 9 → ((colS M k j + (68719476736 - 20 * k) * gD : Nat) : Int) ≤ zD (M j j) ∧ zD (M j j) + (colS M k j : Int) ≤ (((2199023255552 + 20 * k) * gD : Nat) : Int)
theorem suN_if {P : Nat → Prop} [DecidablePred P] {f : Nat → Nat} {c : Nat} : suN (fun i => if P i then f i * c else 0) 9 = suN (fun i => if P i then f i else 0) 9 * c := by
  rw [Nat.mul_comm _ c, ← suN_mul]
  refine suN_congr 9 (fun i _ => ?_)
  split
  · exact Nat.mul_comm _ _
  · exact (Nat.mul_zero _).symm
/-- the factors of column k: one in all, at most -/
theorem fac_ok (hk : k < 9) (h : inM k M) : (∀ i, k < i → i < 9 → fD (mlt M k i) ∧ dvOK (M i k) (M k k)) ∧ suN (fun i => if k < i then (zD (mlt M k i)).natAbs else 0) 9 ≤ uD := by
  obtain ⟨h1, h2, h3⟩ := h
  obtain ⟨c1, c2⟩ := h3 k (Nat.le_refl _) hk
  have d0 := h2 k hk
  have gp := gD_pos
  have hug := ug
  have hkk : 0 < zD (M k k) := by omega
  have ecol : colS M k k = suN (fun i => if k < i then zN M i k else 0) 9 := suN_congr 9 (fun i _ => by
    by_cases q : k < i
    · rw [if_pos ⟨by omega, by omega⟩, if_pos q]
    · rw [if_neg (fun z => q (by omega)), if_neg q])
  obtain ⟨p, hp⟩ : ∃ p : Nat, p = (zD (M k k)).natAbs := ⟨_, rfl⟩
  have hpz : zD (M k k) = (p : Int) := by omega
  rw [hpz] at c1 c2 d0
  have at_ : ∀ i, k < i → i < 9 → zN M i k ≤ p := fun i q1 q2 => by
    have := suN_at (f := fun i => if k < i then zN M i k else 0) 9 i q2
    rw [if_pos q1] at this
    omega
  have dv : ∀ i, k < i → i < 9 → fD (mlt M k i) ∧ (zD (mlt M k i) * zD (M k k) - zD (M i k) * (uD : Int)).natAbs ≤ gD * p := fun i q1 q2 => by
    have := ddiv_z (h1 i k q2 hk).1 (h1 k k hk hk).1 (by omega) (by
      rw [← hp]
      have a1 := at_ i q1 q2
      have a2 : (zD (M i k)).natAbs * uD ≤ p * uD := Nat.mul_le_mul_right _ a1
      have a3 : p * uD < 8192 * uD * p := by
        rw [Nat.mul_comm p uD, Nat.mul_assoc]
        have : 0 < uD * p := Nat.mul_pos uD_pos (by omega)
        omega
      omega)
    rw [← hp] at this
    exact this
  refine ⟨fun i q1 q2 => ⟨(dv i q1 q2).1, cmp_ne (h1 k k hk hk).1 (by omega), n64_of (dv i q1 q2).1⟩, ?_⟩
  have hF : suN (fun i => if k < i then (zD (mlt M k i)).natAbs * p else 0) 9 ≤ suN (fun i => (if k < i then zN M i k * uD else 0) + gD * p) 9 := by
    refine suN_le 9 (fun i hi => ?_)
    by_cases q : k < i
    · rw [if_pos q, if_pos q]
      have d := (dv i q hi).2
      have e1 : (zD (mlt M k i)).natAbs * p = (zD (mlt M k i) * zD (M k k)).natAbs := by rw [Int.natAbs_mul, ← hp]
      have e2 : zN M i k * uD = (zD (M i k) * (uD : Int)).natAbs := by rw [Int.natAbs_mul, Int.natAbs_natCast]; rfl
      rw [e1, e2]
      omega
    · rw [if_neg q]
      exact Nat.zero_le _
  rw [suN_add, suN_if, suN_if] at hF
  have e9 : suN (fun _ => gD * p) 9 = 9 * (gD * p) := by simp only [suN]; omega
  rw [e9, ← ecol] at hF
  -- the column's margin
  have m1 : colS M k k + 34359738368 * gD ≤ p := by
    have : 34359738368 * gD ≤ (68719476736 - 20 * k) * gD := Nat.mul_le_mul_right _ (by omega)
    omega
  have m2 := Nat.mul_le_mul_right uD m1
  rw [Nat.add_mul] at m2
  have m3 : 9 * p ≤ 34359738368 * uD := by
    have : (2199023255552 + 20 * k) * gD ≤ 4398046511104 * gD := Nat.mul_le_mul_right _ (by omega)
    omega
  have m4 : 9 * (gD * p) ≤ 34359738368 * gD * uD := by
    have := Nat.mul_le_mul_left gD m3
    rw [Nat.mul_left_comm, Nat.mul_left_comm gD 34359738368, ← Nat.mul_assoc 34359738368] at this
    exact this
  have m5 : suN (fun i => if k < i then (zD (mlt M k i)).natAbs else 0) 9 * p ≤ uD * p := by
    rw [Nat.mul_comm uD p]
    omega
  exact Nat.le_of_mul_le_mul_right m5 (by omega)
/-- what is taken from column j: its entry in row k, and little more -/
theorem pro_ok (hk : k < 9) (h : inM k M) {j : Nat} (hj : j < 9) : (∀ i, k < i → i < 9 → fD (FP.dmul (mlt M k i) (M k j))) ∧ suN (fun i => if k < i then (zD (FP.dmul (mlt M k i) (M k j))).natAbs else 0) 9 ≤ zN M k j + 9 * gD := by
  obtain ⟨f1, f2⟩ := fac_ok hk h
  obtain ⟨a1, a2⟩ := h.1 k j hk hj
  have up := uD_pos
  have fl : ∀ i, k < i → i < 9 → (zD (mlt M k i)).natAbs ≤ uD := fun i q1 q2 => by
    have := suN_at (f := fun i => if k < i then (zD (mlt M k i)).natAbs else 0) 9 i q2
    rw [if_pos q1] at this
    omega
  have dm : ∀ i, k < i → i < 9 → fD (FP.dmul (mlt M k i) (M k j)) ∧ (zD (FP.dmul (mlt M k i) (M k j)) * (uD : Int) - zD (mlt M k i) * zD (M k j)).natAbs ≤ gD * uD := fun i q1 q2 => dmul_z (f1 i q1 q2).1 a1 (by
    rw [Int.natAbs_mul]
    have b1 : (zD (mlt M k i)).natAbs * (zD (M k j)).natAbs ≤ uD * (4 * uD) := Nat.mul_le_mul (fl i q1 q2) a2
    have b2 : uD * (4 * uD) < 8192 * uD * uD := by
      rw [Nat.mul_left_comm, Nat.mul_assoc]
      have : 0 < uD * uD := Nat.mul_pos up up
      omega
    omega)
  refine ⟨fun i q1 q2 => (dm i q1 q2).1, ?_⟩
  have hP : suN (fun i => if k < i then (zD (FP.dmul (mlt M k i) (M k j))).natAbs * uD else 0) 9 ≤ suN (fun i => (if k < i then (zD (mlt M k i)).natAbs * zN M k j else 0) + gD * uD) 9 := by
    refine suN_le 9 (fun i hi => ?_)
    by_cases q : k < i
    · rw [if_pos q, if_pos q]
      have d := (dm i q hi).2
      have e1 : (zD (FP.dmul (mlt M k i) (M k j))).natAbs * uD = (zD (FP.dmul (mlt M k i) (M k j)) * (uD : Int)).natAbs := by rw [Int.natAbs_mul, Int.natAbs_natCast]
      have e2 : (zD (mlt M k i)).natAbs * zN M k j = (zD (mlt M k i) * zD (M k j)).natAbs := by rw [Int.natAbs_mul]; rfl
      rw [e1, e2]
      omega
    · rw [if_neg q]
      exact Nat.zero_le _
  rw [suN_add, suN_if, suN_if] at hP
  have e9 : suN (fun _ => gD * uD) 9 = 9 * gD * uD := by simp only [suN]; rw [Nat.mul_assoc]; omega
  have m1 : suN (fun i => if k < i then (zD (mlt M k i)).natAbs else 0) 9 * zN M k j ≤ uD * zN M k j := Nat.mul_le_mul_right _ f2
  have m2 : suN (fun i => if k < i then (zD (FP.dmul (mlt M k i) (M k j))).natAbs else 0) 9 * uD ≤ (zN M k j + 9 * gD) * uD := by
    rw [Nat.add_mul, Nat.mul_comm (zN M k j) uD]
    omega
  exact Nat.le_of_mul_le_mul_right m2 up
/-- the new entries -/
theorem new_ok (hk : k < 9) (h : inM k M) {j : Nat} (hj : j < 9) : ∀ i, k < i → i < 9 → fD (ms (M i j) (mlt M k i) (M k j)) ∧ msOK (M i j) (mlt M k i) (M k j) ∧ (zD (ms (M i j) (mlt M k i) (M k j)) - zD (M i j)).natAbs ≤ (zD (FP.dmul (mlt M k i) (M k j))).natAbs + gD := fun i q1 q2 => by
  obtain ⟨p1, p2⟩ := pro_ok hk h hj
  obtain ⟨a1, a2⟩ := h.1 k j hk hj
  obtain ⟨b1, b2⟩ := h.1 i j q2 hj
  have hug := ug
  have gp := gD_pos
  have pl : (zD (FP.dmul (mlt M k i) (M k j))).natAbs ≤ zN M k j + 9 * gD := by
    have := suN_at (f := fun i => if k < i then (zD (FP.dmul (mlt M k i) (M k j))).natAbs else 0) 9 i q2
    rw [if_pos q1] at this
    omega
  have hz : (zD (M i j)).natAbs ≤ 4 * uD := b2
  obtain ⟨s1, s2⟩ := dsub_z b1 (p1 i q1 q2) (by omega)
  refine ⟨s1, ⟨n64_of (p1 i q1 q2), n64_of s1⟩, ?_⟩
  unfold ms
  omega
theorem colS_cut {j : Nat} (hk : k < 9) (hkj : k ≠ j) : colS M k j = zN M k j + colS M (k + 1) j := by
  have := suN_cut (f := fun i => if k ≤ i ∧ i ≠ j then zN M i j else 0) (n := k) 9
  rw [if_pos hk, if_pos ⟨Nat.le_refl _, hkj⟩] at this
  unfold colS
  rw [← this, Nat.add_comm]
  congr 1
  refine suN_congr 9 (fun i _ => ?_)
  by_cases e : i = k
  · rw [if_pos e, if_neg (fun z => by omega)]
  · rw [if_neg e]
    by_cases q : k ≤ i ∧ i ≠ j
    · rw [if_pos q, if_pos ⟨by omega, q.2⟩]
    · rw [if_neg q, if_neg (fun z => q ⟨by omega, z.2⟩)]
/-- one column more -/
theorem in_step (hk : k < 9) (h : inM k M) : inM (k + 1) (elM M k) := by
  have hug := ug
  have gp := gD_pos
  have key : ∀ j, k < j → j < 9 → ∃ q : Nat → Nat, suN q 9 ≤ zN M k j + 18 * gD ∧ ∀ i, k < i → i < 9 → (zD (elM M k i j) - zD (M i j)).natAbs ≤ q i := fun j q1 q2 => by
    obtain ⟨-, p2⟩ := pro_ok hk h q2
    refine ⟨fun i => (if k < i then (zD (FP.dmul (mlt M k i) (M k j))).natAbs else 0) + gD, ?_, fun i z1 z2 => ?_⟩
    · rw [suN_add]
      have e9 : suN (fun _ => gD) 9 = 9 * gD := by simp only [suN]; omega
      omega
    · have := (new_ok hk h q2 i z1 z2).2.2
      unfold elM
      dsimp only
      rw [if_pos ⟨z1, by omega⟩, if_pos z1]
      exact this
  have col : ∀ j, k + 1 ≤ j → j < 9 → ((colS (elM M k) (k + 1) j + (68719476736 - 20 * (k + 1)) * gD : Nat) : Int) ≤ zD (elM M k j j) ∧ zD (elM M k j j) + (colS (elM M k) (k + 1) j : Int) ≤ (((2199023255552 + 20 * (k + 1)) * gD : Nat) : Int) := fun j q1 q2 => by
    obtain ⟨q, s1, s2⟩ := key j (by omega) q2
    obtain ⟨c1, c2⟩ := h.2.2 j (by omega) q2
    have cut := colS_cut (M := M) hk (by omega : k ≠ j)
    have dj := s2 j (by omega) q2
    have hle : colS (elM M k) (k + 1) j ≤ suN (fun i => (if k + 1 ≤ i ∧ i ≠ j then zN M i j else 0) + (if i = j then 0 else q i)) 9 := by
      refine suN_le 9 (fun i hi => ?_)
      by_cases z : k + 1 ≤ i ∧ i ≠ j
      · rw [if_pos z, if_pos z, if_neg z.2]
        have := s2 i (by omega) hi
        unfold zN
        omega
      · rw [if_neg z]
        exact Nat.zero_le _
    rw [suN_add] at hle
    have cq := suN_cut (f := q) (n := j) 9
    rw [if_pos q2] at cq
    have ec : suN (fun i => if k + 1 ≤ i ∧ i ≠ j then zN M i j else 0) 9 = colS M (k + 1) j := rfl
    have e1 : (68719476736 - 20 * k) * gD = (68719476736 - 20 * (k + 1)) * gD + 20 * gD := by
      rw [← Nat.add_mul]
      congr 1
      omega
    have e2 : (2199023255552 + 20 * (k + 1)) * gD = (2199023255552 + 20 * k) * gD + 20 * gD := by
      rw [← Nat.add_mul]
      congr 1
    rw [e1] at c1
    rw [e2]
    generalize (68719476736 - 20 * (k + 1)) * gD = x1 at *
    generalize (2199023255552 + 20 * k) * gD = x2 at *
    constructor <;> omega
  refine ⟨fun i j hi hj => ?_, fun j hj => ?_, col⟩
  · by_cases z : k < i ∧ k ≤ j
    · have e : elM M k i j = ms (M i j) (mlt M k i) (M k j) := by unfold elM; rw [if_pos z]
      obtain ⟨n1, -, n3⟩ := new_ok hk h hj i z.1 hi
      refine ⟨by rw [e]; exact n1, ?_⟩
      by_cases q : j = k
      · -- the column that goes
        subst q
        unfold zN
        rw [e]
        obtain ⟨p1, p2⟩ := pro_ok hk h hj
        have pl := suN_at (f := fun i => if j < i then (zD (FP.dmul (mlt M j i) (M j j))).natAbs else 0) 9 i hi
        rw [if_pos z.1] at pl
        obtain ⟨c1, c2⟩ := h.2.2 j (Nat.le_refl _) hj
        have cl := suN_at (f := fun i => if j ≤ i ∧ i ≠ j then zN M i j else 0) 9 i hi
        rw [if_pos ⟨by omega, by omega⟩] at cl
        have cl : zN M i j ≤ colS M j j := cl
        have hb : (2199023255552 + 20 * j) * gD ≤ 2199023255900 * gD := Nat.mul_le_mul_right _ (by omega)
        unfold zN at p2 cl
        omega
      · obtain ⟨c1, c2⟩ := col j (by omega) hj
        have hb : (2199023255552 + 20 * (k + 1)) * gD ≤ 2199023255900 * gD := Nat.mul_le_mul_right _ (by omega)
        by_cases ij : i = j
        · rw [ij]
          unfold zN
          omega
        · have cl := suN_at (f := fun i => if k + 1 ≤ i ∧ i ≠ j then zN (elM M k) i j else 0) 9 i hi
          rw [if_pos ⟨by omega, ij⟩] at cl
          have cl : zN (elM M k) i j ≤ colS (elM M k) (k + 1) j := cl
          have : (0 : Int) ≤ zD (elM M k j j) := by omega
          omega
    · have e : elM M k i j = M i j := by unfold elM; rw [if_neg z]
      unfold zN
      rw [e]
      exact h.1 i j hi hj
  · by_cases z : k < j
    · have := (col j (by omega) hj).1
      have hb : 34359738368 * gD ≤ (68719476736 - 20 * (k + 1)) * gD := Nat.mul_le_mul_right _ (by omega)
      omega
    · have e : elM M k j j = M j j := by unfold elM; rw [if_neg (fun y => z y.1)]
      rw [e]
      exact h.2.1 j hj
end Elim
