/-! what all walks leave -/
theorem left_go {I0 I2 : SI} {J2 : SJ} {F : Nat} (hW : W99 I0) (hR : RelN I0 I2) (h1 : 50 ≤ (I2 102 2).toInt) (h2 : (I2 102 2).toInt ≤ 90) (hb : 100 ≤ (I2 102 3).toInt) (hT : TermR (loF I0) F I2 J2) (h : ∀ v, v < 4 → rN J2 v ≤ 1000000000000 ∧ 10 * rN J2 v + ssN J2 v ≤ 100000000000000) :
    ∀ v, v ≤ 4 → (∀ a b, ¬ (a = 102 ∧ b = 4) → (sqR (loF I0) F I2 J2 v).1 a b = I2 a b) ∧ ∀ x, x < 4 → rN (sqR (loF I0) F I2 J2 v).2 x ≤ rN J2 x ∧ 10 * rN (sqR (loF I0) F I2 J2 v).2 x + ssN (sqR (loF I0) F I2 J2 v).2 x ≤ 10 * rN J2 x + ssN J2 x
  | 0, _ => ⟨fun _ _ _ => rfl, fun _ _ => ⟨Nat.le_refl _, Nat.le_refl _⟩⟩
  | v + 1, hv => by
    obtain ⟨a, b⟩ := left_go hW hR h1 h2 hb hT h v (by omega)
    have hv4 : v < 4 := by omega
    obtain ⟨s, hs⟩ := hT v hv4
    obtain ⟨r1, r2⟩ := run_frame hv4 F _ _ s hs
    obtain ⟨b1, b2⟩ := b v hv4
    obtain ⟨h3, h4⟩ := h v hv4
    have l := run_left hW hv4 F (sqR (loF I0) F I2 J2 v).1 (sqR (loF I0) F I2 J2 v).2 (relN_far hR (fun x y q => a x y (fun z => q z.1))) (by rw [a _ _ (by omega)]; exact h1) (by rw [a _ _ (by omega)]; exact h2) (by rw [a _ _ (by omega)]; exact hb) (by omega) (by omega) s hs
    have eR : sqR (loF I0) F I2 J2 (v + 1) = s := by
      conv => lhs; unfold sqR
      rw [hs]; rfl
    rw [eR]
    refine ⟨fun x y q => (r2 x y q).trans (a x y q), fun x hx => ?_⟩
    by_cases e : x = v
    · subst e
      exact ⟨by omega, by omega⟩
    · rw [rN_fR hv4 hx e r1, ssN_fR hv4 hx e r1]
      exact b x hx
/-- behind a beginning: few enough for one mend -/
theorem left_begin {I0 I2 : SI} {J2 : SJ} (hW : W99 I0) (hR : RelN I0 I2) (h1 : 50 ≤ (I2 102 2).toInt) (h2 : (I2 102 2).toInt ≤ 90) (hb : 100 ≤ (I2 102 3).toInt) : ∀ v, v < 4 → rN (sqR (loF I0) 10000000 I2 (beginM J2) 4).2 v + 2 * ssN (sqR (loF I0) 10000000 I2 (beginM J2) 4).2 v ≤ 100000000 := fun v hv => by
  obtain ⟨-, b⟩ := left_go (J2 := beginM J2) hW hR h1 h2 hb (term_begin hW hR h1 h2 hb) (fun x hx => by rw [(rN_begin hx).1, (rN_begin hx).2]; omega) 4 (Nat.le_refl _)
  have := b v hv
  rw [(rN_begin hv).1, (rN_begin hv).2] at this
  omega
