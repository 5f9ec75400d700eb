/-! the drift: the claim by levels and steps -/
section DriftB
variable {A G : Nat → Nat → Nat} {nd : Nat → Nat} {fo : Nat → Bool} {b fb : Nat}
def okD (A G : Nat → Nat → Nat) (nd : Nat → Nat) (fo : Nat → Bool) (T D e k F : Nat) : Prop := ∀ t0 t1, t0 ≤ t1 → t1 ≤ T → sgD nd fo k t0 t1 → cnD fo t1 * D + e * phD A G fo k t1 ≤ cnD fo t0 * D + e * phD A G fo k t0 + F
/-- what is left below a node that is pushed -/
theorem ps_left {k t : Nat} (hk : 4 ≤ k) (hk8 : k ≤ 8) (h : ∀ j, j < k → A t j < b) : psD A k t + (36 + 10 * (k - 4)) ≤ 10 * A t k + (36 + 10 * (k - 4)) * b := by
  have h0 := h 0 (by omega)
  have h1 := h 1 (by omega)
  have h2 := h 2 (by omega)
  have h3 := h 3 (by omega)
  have hc : k = 4 ∨ k = 5 ∨ k = 6 ∨ k = 7 ∨ k = 8 := by omega
  unfold psD rsD bsD
  rcases hc with z | z | z | z | z <;> subst z
  · simp; omega
  · have := h 4 (by omega); simp; omega
  · have := h 4 (by omega); have := h 5 (by omega); simp; omega
  · have := h 4 (by omega); have := h 5 (by omega); have := h 6 (by omega); simp; omega
  · have := h 4 (by omega); have := h 5 (by omega); have := h 6 (by omega); have := h 7 (by omega); simp; omega
theorem rs_left {t : Nat} (h : ∀ j, j < 4 → A t j < b) : rsD A t + 4 ≤ 4 * b := by
  have h0 := h 0 (by omega)
  have h1 := h 1 (by omega)
  have h2 := h 2 (by omega)
  have h3 := h 3 (by omega)
  unfold rsD
  omega
/-- readers alone -/
theorem ok_read {T D e : Nat} (hb : 0 < b) (hS : ∀ t, t < T → stD A G nd fo b fb t) : okD A G nd fo T D e 3 (4 * D + 36 * e) := fun t0 t1 h01 h1T hs => by
  obtain ⟨d, rfl⟩ := Nat.le.dest h01
  obtain ⟨i1, i2⟩ := seg_read (k := 3) hb (by omega) hS d h1T hs
  have u := un_le4 (A := A) (b := b) t0
  have m1 : cnD fo (t0 + d) * D ≤ (cnD fo t0 + 4) * D := Nat.mul_le_mul_right D (by omega)
  have m2 : e * phD A G fo 3 (t0 + d) ≤ e * (phD A G fo 3 t0 + 36) := Nat.mul_le_mul_left e (by omega)
  rw [Nat.add_mul] at m1
  rw [Nat.mul_add] at m2
  omega
/-- the crude claim -/
theorem ok_crude {T k : Nat} (hb : 0 < b) (hfb : 10 ≤ fb) (hbf : b ≤ 10 * fb + 9) (hk : 3 ≤ k) (hS : ∀ t, t < T → stD A G nd fo b fb t) : okD A G nd fo T (10 * fb) 1 k (88 * fb) := fun t0 t1 h01 h1T hs => by
  obtain ⟨d, rfl⟩ := Nat.le.dest h01
  rw [Nat.one_mul, Nat.one_mul]
  rcases first_of (fun t => fo t = false ∧ 4 ≤ nd t) t0 d with h | ⟨x, x1, x2, ⟨x3, x4⟩, x5⟩
  · obtain ⟨i1, i2⟩ := seg_read (k := k) (t0 := t0) hb hk hS d h1T (fun t q1 q2 => by
      have := h t q1 q2
      by_cases f : fo t = true
      · exact Or.inl f
      · exact Or.inr (by
          have f' : fo t = false := by revert f; cases fo t <;> simp
          have z : ¬ 4 ≤ nd t := fun z => this ⟨f', z⟩
          omega))
    have u := un_le4 (A := A) (b := b) t0
    have m1 : cnD fo (t0 + d) * (10 * fb) ≤ (cnD fo t0 + 4) * (10 * fb) := Nat.mul_le_mul_right _ (by omega)
    rw [Nat.add_mul] at m1
    omega
  · obtain ⟨y, rfl⟩ := Nat.le.dest x1
    obtain ⟨i1, i2⟩ := seg_read (k := k) (t0 := t0) hb hk hS y (by omega) (fun t q1 q2 => by
      have := x5 t q1 q2
      by_cases f : fo t = true
      · exact Or.inl f
      · exact Or.inr (by
          have f' : fo t = false := by revert f; cases fo t <;> simp
          have z : ¬ 4 ≤ nd t := fun z => this ⟨f', z⟩
          omega))
    have u := un_le4 (A := A) (b := b) t0
    obtain ⟨w, hw⟩ := Nat.le.dest (show t0 + y ≤ t0 + d by omega)
    have cr := seg_crude (k := k) (t0 := t0 + y) hk hS w (by omega) (fun t q1 q2 => hs t (by omega) (by omega))
    rw [hw] at cr
    have st := hS (t0 + y) (by omega)
    rcases st with ⟨f, -⟩ | ⟨-, s⟩
    · rw [x3] at f; cases f
    · have rl := rs_left (A := A) (b := b) (t := t0 + y) (fun j hj => s.2.2.1 j (by omega))
      have m1 : cnD fo (t0 + y) * (10 * fb) ≤ (cnD fo t0 + 4) * (10 * fb) := Nat.mul_le_mul_right _ (by omega)
      rw [Nat.add_mul] at m1
      omega
theorem ok_mono {T D e k F F' : Nat} (h : okD A G nd fo T D e k F) (hF : F ≤ F') : okD A G nd fo T D e k F' := fun t0 t1 a b c => Nat.le_trans (h t0 t1 a b c) (by omega)
/-- one level up, where the level's own book is not pushed -/
theorem ok_up {T D e k F : Nat} {t0 t1 : Nat} (hk : 3 ≤ k) (hk8 : k < 8) (hS : ∀ t, t < T → stD A G nd fo b fb t) (h : okD A G nd fo T D e k F) (h01 : t0 ≤ t1) (h1T : t1 ≤ T) (hs : sgD nd fo k t0 t1) : cnD fo t1 * D + e * phD A G fo (k + 1) t1 ≤ cnD fo t0 * D + e * phD A G fo (k + 1) t0 + F := by
  have i := h t0 t1 h01 h1T hs
  obtain ⟨d, rfl⟩ := Nat.le.dest h01
  have c := Nat.mul_le_mul_left e (seg_conv (t0 := t0) hk hk8 hS d h1T hs)
  rw [Nat.mul_add, Nat.mul_add] at c
  omega
/-- the arithmetic of a step: x the first push of the level's book -/
theorem step_ar {c0 cx c1 D e fb F Fm nu f0 fx f' f1 psx zx r a : Nat} (hA : cx * (100 * D) + 81 * e * fx ≤ c0 * (100 * D) + 81 * e * f0 + Fm) (hP : 10 * f' + 19 * a ≤ 10 * fx + 81) (hx : fx = psx + zx) (hL : psx ≤ 10 * a + r) (hB : c1 * D + e * f1 ≤ (cx + 1) * D + e * f' + F) (hz : zx ≤ f1) (hnu : 19 * r + 810 ≤ fb * nu) :
    c1 * (100 * D) + 81 * e * f1 ≤ c0 * (100 * D) + 81 * e * f0 + (100 * F + Fm + 100 * D + fb * (e * nu)) := by
  have l1 : 100 * f' + 19 * psx ≤ 100 * fx + 19 * r + 810 := by omega
  have l2 : 81 * f1 + 19 * zx ≤ 100 * f1 := by omega
  have l3 : 100 * f' ≤ 81 * fx + 19 * zx + (19 * r + 810) := by omega
  have m1 := Nat.mul_le_mul_left e l3
  have m2 := Nat.mul_le_mul_left e l2
  have m3 := Nat.mul_le_mul_left e hnu
  have e1 : c1 * (100 * D) = 100 * (c1 * D) := Nat.mul_left_comm _ _ _
  have e6 : c0 * (100 * D) = 100 * (c0 * D) := Nat.mul_left_comm _ _ _
  have e2 : cx * (100 * D) = 100 * (cx * D) := Nat.mul_left_comm _ _ _
  have e3 : (cx + 1) * D = cx * D + D := by rw [Nat.add_mul, Nat.one_mul]
  have e4 : ∀ y : Nat, 81 * e * y = 81 * (e * y) := fun y => Nat.mul_assoc _ _ _
  have e5 : fb * (e * nu) = e * (fb * nu) := Nat.mul_left_comm _ _ _
  rw [Nat.mul_add e (81 * fx + 19 * zx), Nat.mul_add e (81 * fx), Nat.mul_left_comm e 100, Nat.mul_left_comm e 81, Nat.mul_left_comm e 19] at m1
  rw [Nat.mul_add e (81 * f1), Nat.mul_left_comm e 81, Nat.mul_left_comm e 19, Nat.mul_left_comm e 100] at m2
  rw [e2, e6, e4, e4] at hA
  rw [e3] at hB
  rw [e1, e6, e4, e4, e5]
  omega
/-- the claim's step -/
theorem ok_step {T D e k F Fm nu : Nat} (hk : 3 ≤ k) (hk8 : k < 8) (hbf : b ≤ 10 * fb + 9) (hb : 0 < b) (hnu : 19 * ((36 + 10 * (k - 3)) * (10 * fb + 8)) + 810 ≤ fb * nu) (hS : ∀ t, t < T → stD A G nd fo b fb t)
    (hm : okD A G nd fo T (100 * D) (81 * e) k Fm) (hF : okD A G nd fo T D e (k + 1) F) : okD A G nd fo T (100 * D) (81 * e) (k + 1) (100 * F + Fm + 100 * D + fb * (e * nu)) := fun t0 t1 h01 h1T hs => by
  obtain ⟨d, hd⟩ := Nat.le.dest h01
  rcases first_of (fun t => fo t = false ∧ nd t = k + 1) t0 d with h | ⟨x, x1, x2, ⟨x3, x4⟩, x5⟩
  · have := ok_up hk hk8 hS hm h01 h1T (fun t q1 q2 => by
      rcases hs t q1 q2 with f | f
      · exact Or.inl f
      · by_cases f' : fo t = true
        · exact Or.inl f'
        · have f'' : fo t = false := by revert f'; cases fo t <;> simp
          have z : ¬ nd t = k + 1 := fun z => h t q1 (by omega) ⟨f'', z⟩
          exact Or.inr (by omega))
    omega
  · have hA := ok_up (t1 := x) hk hk8 hS hm x1 (by omega) (fun t q1 q2 => by
      rcases hs t q1 (by omega) with f | f
      · exact Or.inl f
      · by_cases f' : fo t = true
        · exact Or.inl f'
        · have f'' : fo t = false := by revert f'; cases fo t <;> simp
          have z : ¬ nd t = k + 1 := fun z => x5 t q1 q2 ⟨f'', z⟩
          exact Or.inr (by omega))
    have hB := hF (x + 1) t1 (by omega) h1T (fun t q1 q2 => hs t (by omega) q2)
    rcases hS x (by omega) with ⟨f, -⟩ | ⟨f, s⟩
    · rw [x3] at f; cases f
    · rw [x4] at s
      obtain ⟨l, l1, l2, l3, -, l4⟩ := ph_re (k := k + 1) f s (Nat.le_refl _)
      have l5 := (l4 (by omega)).1
      rw [cnD_re f] at hB
      have pl := ps_left (A := A) (b := b) (t := x) (k := k + 1) (by omega) (by omega) s.2.2.1
      have zl := zz_le (G := G) (fo := fo) (k + 1) (show x ≤ t1 by omega)
      have e0 : k + 1 - 4 = k - 3 := by omega
      rw [e0] at pl
      have mb : (36 + 10 * (k - 3)) * b ≤ (36 + 10 * (k - 3)) * (10 * fb + 9) := Nat.mul_le_mul_left _ hbf
      have e9 : (36 + 10 * (k - 3)) * (10 * fb + 9) = (36 + 10 * (k - 3)) * (10 * fb + 8) + (36 + 10 * (k - 3)) := by rw [show 10 * fb + 9 = 10 * fb + 8 + 1 from rfl, Nat.mul_add _ (10 * fb + 8) 1, Nat.mul_one]
      exact step_ar (a := A x (k + 1)) (psx := psD A (k + 1) x) (zx := zzD G fo (k + 1) x) (r := (36 + 10 * (k - 3)) * (10 * fb + 8)) hA (by omega) rfl (by omega) hB (by unfold phD; omega) hnu
/-- the numbers of the claim -/
def h1D : Nat → Nat
  | 0 => 10
  | i + 1 => 100 * h1D i
def e8D : Nat → Nat
  | 0 => 1
  | i + 1 => 81 * e8D i
def kaS (f : Nat → Nat) (nu : Nat) : Nat → Nat
  | 0 => 88
  | i + 1 => 100 * kaS f nu i + f (i + 1) + h1D (i + 1) + e8D i * nu
def nuD (j : Nat) : Nat := 206 * (36 + 10 * j) + 81
def kaD : Nat → Nat → Nat
  | 0 => fun i => 4 * h1D i + 4 * e8D i
  | j + 1 => kaS (kaD j) (nuD j)
theorem nuD_ok {j : Nat} (hfb : 10 ≤ fb) : 19 * ((36 + 10 * j) * (10 * fb + 8)) + 810 ≤ fb * nuD j := by
  unfold nuD
  generalize 36 + 10 * j = q
  have m := Nat.mul_le_mul_right q hfb
  have e1 : q * (10 * fb + 8) = 10 * (fb * q) + 8 * q := by rw [Nat.mul_add, Nat.mul_left_comm, Nat.mul_comm q fb, Nat.mul_comm q 8]
  have e2 : fb * (206 * q + 81) = 206 * (fb * q) + 81 * fb := by rw [Nat.mul_add, Nat.mul_left_comm, Nat.mul_comm fb 81]
  rw [e1, e2]
  omega
theorem ok_all {T : Nat} (hb : 0 < b) (hfb : 10 ≤ fb) (hbf : b ≤ 10 * fb + 9) (hS : ∀ t, t < T → stD A G nd fo b fb t) : ∀ i j, j ≤ 5 → okD A G nd fo T (fb * h1D i) (e8D i) (3 + j) (fb * kaD j i) := by
  have read : ∀ i, okD A G nd fo T (fb * h1D i) (e8D i) 3 (fb * kaD 0 i) := fun i => ok_mono (ok_read hb hS) (by
    show 4 * (fb * h1D i) + 36 * e8D i ≤ fb * (4 * h1D i + 4 * e8D i)
    have m := Nat.mul_le_mul_right (e8D i) hfb
    rw [Nat.mul_add, Nat.mul_left_comm fb 4, Nat.mul_left_comm fb 4]
    omega)
  intro i
  induction i with
  | zero =>
    intro j hj
    cases j with
    | zero => exact read 0
    | succ j =>
      have := ok_crude (k := 3 + (j + 1)) hb hfb hbf (by omega) hS
      have e1 : fb * h1D 0 = 10 * fb := Nat.mul_comm _ _
      have e2 : fb * kaD (j + 1) 0 = 88 * fb := Nat.mul_comm _ _
      rw [e1, e2]
      exact this
  | succ i ih =>
    intro j
    induction j with
    | zero => intro _; exact read (i + 1)
    | succ j ihj =>
      intro hj
      have hm := ihj (by omega)
      have hF := ih (j + 1) hj
      have e1 : fb * h1D (i + 1) = 100 * (fb * h1D i) := Nat.mul_left_comm _ _ _
      have e2 : e8D (i + 1) = 81 * e8D i := rfl
      have e3 : fb * kaD (j + 1) (i + 1) = 100 * (fb * kaD (j + 1) i) + fb * kaD j (i + 1) + 100 * (fb * h1D i) + fb * (e8D i * nuD j) := by
        show fb * (100 * kaD (j + 1) i + kaD j (i + 1) + h1D (i + 1) + e8D i * nuD j) = _
        rw [Nat.mul_add, Nat.mul_add, Nat.mul_add, Nat.mul_left_comm fb 100, e1]
      rw [e1, e2] at hm
      rw [e1, e2, e3]
      have := ok_step (k := 3 + j) (nu := nuD j) (by omega) (by omega) hbf hb (by rw [show 3 + j - 3 = j from by omega]; exact nuD_ok hfb) hS hm hF
      exact this
/-- how many pushes there are -/
theorem drift_count {T : Nat} (hb : 0 < b) (hfb : 10 ≤ fb) (hbf : b ≤ 10 * fb + 9) (hS : ∀ t, t < T → stD A G nd fo b fb t) (hn : ∀ t, t < T → nd t < 9) (i : Nat) : cnD fo T * (fb * h1D i) ≤ e8D i * psD A 8 0 + fb * kaD 5 i := by
  have h := ok_all hb hfb hbf hS i 5 (Nat.le_refl _) 0 T (Nat.zero_le _) (Nat.le_refl _) (fun t _ q => Or.inr (by have := hn t q; omega))
  have e1 : cnD fo 0 * (fb * h1D i) = 0 := Nat.zero_mul _
  have e2 : phD A G fo (3 + 5) 0 = psD A 8 0 := rfl
  rw [e1, e2] at h
  omega
end DriftB
