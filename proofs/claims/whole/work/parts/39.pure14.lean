/-! lists, side by side -/
noncomputable def eC (I : SI) (r : Nat) : Nat → Nat
  | 0 => 0
  | b + 1 => eC I r b + (@ite Nat (eligB I r b) (Classical.propDecidable _) 1 0)
theorem eC_y {I : SI} {r b : Nat} (h : eligB I r b) : eC I r (b + 1) = eC I r b + 1 := by
  conv => lhs; unfold eC
  rw [if_pos h]
theorem eC_n {I : SI} {r b : Nat} (h : ¬ eligB I r b) : eC I r (b + 1) = eC I r b := by
  conv => lhs; unfold eC
  rw [if_neg h]; rfl
theorem eC_mono {I : SI} {r a : Nat} : ∀ t, eC I r a ≤ eC I r (a + t)
  | 0 => Nat.le_refl _
  | t + 1 => by
    refine Nat.le_trans (eC_mono t) ?_
    show eC I r (a + t) ≤ eC I r (a + t) + _
    exact Nat.le_add_right _ _
theorem eC_lt {I : SI} {r a b : Nat} (h : eligB I r a) (hab : a < b) : eC I r a < eC I r b := by
  have h1 := eC_y h
  have h2 := eC_mono (I := I) (r := r) (a := a + 1) (b - (a + 1))
  rw [show a + 1 + (b - (a + 1)) = b from by omega] at h2
  omega
/-- what the ranking holds behind b books -/
theorem rb_eq {I : SI} {J : SJ} {r : Nat} (hr : r < 4) : ∀ b, b ≤ 5 → (rbS I J r b).2.2 = eC I r b ∧ (∀ a, a ≠ 83 → a ≠ 85 → a ≠ 86 → (rbS I J r b).1 a = I a) ∧ (∀ a, a ≠ 84 → (rbS I J r b).2.1 a = J a) ∧ (∀ m, m < b → eligB I r m → (rbS I J r b).1 85 (eC I r m) = nI m ∧ (rbS I J r b).2.1 84 (eC I r m) = J (35 + r) (4 + m))
  | 0, _ => ⟨rfl, fun a h _ _ => st2_k _ _ h, fun _ _ => rfl, fun m h => absurd h (Nat.not_lt_zero _)⟩
  | b + 1, hb => by
    obtain ⟨h1, h2, h3, h4⟩ := rb_eq (I := I) (J := J) hr b (by omega)
    have hel : eligB (rbS I J r b).1 r b ↔ eligB I r b := by
      unfold eligB
      rw [h2 7 (by omega) (by omega) (by omega), h2 (3 + r) (by omega) (by omega) (by omega)]
    unfold rbS
    by_cases q : eligB I r b
    · rw [if_pos (hel.mpr q)]
      refine ⟨?_, fun a p1 p2 p3 => ?_, fun a p => ?_, fun m hm e => ?_⟩
      · dsimp only
        rw [eC_y q, h1]
      · dsimp only
        unfold adI
        rw [st2_k _ _ p1, st2_k _ _ p3, st2_k _ _ p2]
        exact h2 a p1 p2 p3
      · dsimp only
        rw [st2_k _ _ p]; exact h3 a p
      · dsimp only
        unfold adI
        by_cases z : m = b
        · subst z
          rw [← h1, st2_k _ _ (by omega), st2_k _ _ (by omega), st2_s, st2_s, h3 (35 + r) (by omega)]
          exact ⟨rfl, rfl⟩
        · have hlt := eC_lt e (by omega : m < b)
          obtain ⟨g1, g2⟩ := h4 m (by omega) e
          rw [st2_k _ _ (by omega), st2_k _ _ (by omega), st2_n _ _ (by omega), st2_n _ _ (by omega)]
          exact ⟨g1, g2⟩
    · rw [if_neg (fun z => q (hel.mp z))]
      refine ⟨by rw [eC_n q]; exact h1, h2, h3, fun m hm e => ?_⟩
      have z : m ≠ b := fun z => q (by rw [← z]; exact e)
      exact h4 m (by omega) e
theorem elig_L {I1 I2 : SI} (hR : RelN I1 I2) {r b : Nat} (hr : r < 4) (hb : b < 5) : eligB I1 r b ↔ isL I2 r b := by
  unfold eligB isL
  rw [hR.1 r b hr hb, hR.2 b hb]
theorem ahead_eq {I1 I2 : SI} {J1 J2 : SJ} {r b : Nat} (hR : RelN I1 I2) (hJ : RelW r J1 J2) (hr : r < 4) (hb : b < 5) (he : eligB I1 r b) : ∀ m, m ≤ 5 → caN (rbS I1 J1 r 5).2.1 (eC I1 r b) (eC I1 r m) = ahN I2 J2 r b m
  | 0, _ => rfl
  | m + 1, hm => by
    obtain ⟨-, -, -, h4⟩ := rb_eq (I := I1) (J := J1) hr 5 (Nat.le_refl _)
    have ih := ahead_eq hR hJ hr hb he m (by omega)
    have hL := elig_L hR hr (by omega : m < 5)
    unfold ahN
    by_cases q : eligB I1 r m
    · rw [eC_y q]
      unfold caN
      rw [ih, (h4 m (by omega) q).2, (h4 b hb he).2]
      have e1 : J1 (35 + r) (4 + m) = J2 106 (9 * r + 4 + m) := by rw [(hJ (4 + m) (by omega)).1, Nat.add_assoc]
      have e2 : J1 (35 + r) (4 + b) = J2 106 (9 * r + 4 + b) := by rw [(hJ (4 + b) (by omega)).1, Nat.add_assoc]
      have e3 : eC I1 r m < eC I1 r b ↔ m < b := by
        constructor
        · intro z
          rcases Nat.lt_trichotomy m b with y | y | y
          · exact y
          · rw [y] at z; omega
          · have := eC_lt he y; omega
        · exact eC_lt q
      rw [e1, e2]
      congr 1
      by_cases c : isL I2 r m ∧ ahC J2 r b m
      · rw [if_pos c, if_pos (by have c2 := c.2; unfold ahC at c2; rw [e3]; exact c2)]
      · rw [if_neg c, if_neg (fun z => c ⟨hL.mp q, by unfold ahC; rw [e3] at z; exact z⟩)]
    · rw [eC_n q, ih, if_neg (fun z => q (hL.mpr z.1))]; rfl
theorem list_go {I1 I2 : SI} {J1 J2 : SJ} {r : Nat} {pl : Int32} (hR : RelN I1 I2) (hJ : RelW r J1 J2) (hr : r < 4) : ∀ t m, m + t = 5 →
    (liF I2 J2 r pl t m = -1 ∧ fiF (rbS I1 J1 r 5).2.1 (eC I1 r 5) pl (eC I1 r 5 - eC I1 r m) (eC I1 r m) = -1) ∨
    ∃ b, b < 5 ∧ eligB I1 r b ∧ liF I2 J2 r pl t m = nI b ∧ fiF (rbS I1 J1 r 5).2.1 (eC I1 r 5) pl (eC I1 r 5 - eC I1 r m) (eC I1 r m) = nI (eC I1 r b)
  | 0, m, h => by
    obtain rfl : m = 5 := by omega
    rw [Nat.sub_self]
    exact Or.inl ⟨rfl, rfl⟩
  | t + 1, m, h => by
    have ih := list_go (pl := pl) hR hJ hr t (m + 1) (by omega)
    have hL := elig_L hR hr (by omega : m < 5)
    by_cases q : eligB I1 r m
    · have e1 := eC_y q
      have e2 := eC_lt q (by omega : m < 5)
      have e3 := ahead_eq hR hJ hr (by omega : m < 5) q 5 (Nat.le_refl _)
      rw [show eC I1 r 5 - eC I1 r m = (eC I1 r 5 - eC I1 r (m + 1)) + 1 from by omega]
      unfold liF fiF
      by_cases c : nI (ahN I2 J2 r m 5) = pl
      · rw [if_pos ⟨hL.mp q, c⟩, e3, if_pos c]
        exact Or.inr ⟨m, by omega, q, rfl, rfl⟩
      · rw [if_neg (fun z => c z.2), e3, if_neg c, ← e1]
        exact ih
    · have e1 := eC_n q
      rw [e1] at ih
      unfold liF
      rw [if_neg (fun z => q (hL.mpr z.1))]
      exact ih
theorem eC_le (I : SI) (r : Nat) : ∀ b, eC I r b ≤ b
  | 0 => Nat.le_refl _
  | b + 1 => by
    have ih := eC_le I r b
    by_cases q : eligB I r b
    · rw [eC_y q]; omega
    · rw [eC_n q]; omega
/-- listed: both answer the same -/
theorem list_eq {I1 I2 : SI} {J1 J2 : SJ} {r : Nat} {pl : Int32} (hR : RelN I1 I2) (hJ : RelW r J1 J2) (hr : r < 4) :
    (liF I2 J2 r pl 5 0 = -1 ∧ fiF (rbS I1 J1 r 5).2.1 (rbS I1 J1 r 5).2.2 pl (rbS I1 J1 r 5).2.2 0 = -1) ∨
    ∃ f, f < 20 ∧ fiF (rbS I1 J1 r 5).2.1 (rbS I1 J1 r 5).2.2 pl (rbS I1 J1 r 5).2.2 0 = nI f ∧ (rbS I1 J1 r 5).1 85 f = liF I2 J2 r pl 5 0 := by
  obtain ⟨h1, -, -, h4⟩ := rb_eq (I := I1) (J := J1) hr 5 (Nat.le_refl _)
  rw [h1]
  rcases list_go (pl := pl) hR hJ hr 5 0 rfl with ⟨a, b⟩ | ⟨b, hb, he, c, d⟩
  · exact Or.inl ⟨a, b⟩
  · refine Or.inr ⟨eC I1 r b, ?_, d, ?_⟩
    · have := eC_le I1 r b; omega
    · rw [(h4 b hb he).1, c]
