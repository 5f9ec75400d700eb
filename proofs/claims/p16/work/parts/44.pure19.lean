/-! the drift: how many pushes a settling takes, told over times (A the rests without sign, G what a push gives, nd the node, fo: a push that is not counted) -/
def cnD (fo : Nat → Bool) : Nat → Nat
  | 0 => 0
  | t + 1 => cnD fo t + (if fo t = true then 0 else 1)
def gcD (G : Nat → Nat → Nat) (fo : Nat → Bool) (p : Nat) : Nat → Nat
  | 0 => 0
  | t + 1 => gcD G fo p t + (if fo t = true then 0 else G t p)
def rsD (A : Nat → Nat → Nat) (t : Nat) : Nat := A t 0 + A t 1 + A t 2 + A t 3
def bsD (A : Nat → Nat → Nat) (k t p : Nat) : Nat := if p ≤ k then 10 * A t p else 0
def bzD (G : Nat → Nat → Nat) (fo : Nat → Bool) (k t p : Nat) : Nat := if p ≤ k then 0 else 10 * gcD G fo p t
/-- what lies at nodes up to k, readers' at nine tenths -/
def psD (A : Nat → Nat → Nat) (k t : Nat) : Nat := 9 * rsD A t + bsD A k t 4 + bsD A k t 5 + bsD A k t 6 + bsD A k t 7 + bsD A k t 8
/-- what flowed to nodes above k so far -/
def zzD (G : Nat → Nat → Nat) (fo : Nat → Bool) (k t : Nat) : Nat := bzD G fo k t 4 + bzD G fo k t 5 + bzD G fo k t 6 + bzD G fo k t 7 + bzD G fo k t 8
def phD (A G : Nat → Nat → Nat) (fo : Nat → Bool) (k t : Nat) : Nat := psD A k t + zzD G fo k t
def bgD (b x : Nat) : Nat := if b ≤ x then 1 else 0
def unD (A : Nat → Nat → Nat) (b t : Nat) : Nat := bgD b (A t 0) + bgD b (A t 1) + bgD b (A t 2) + bgD b (A t 3)
def smD (G : Nat → Nat → Nat) (t : Nat) : Nat := G t 0 + G t 1 + G t 2 + G t 3 + G t 4 + G t 5 + G t 6 + G t 7 + G t 8
/-- a push that counts -/
def reD (A G : Nat → Nat → Nat) (b fb t n : Nat) : Prop := n < 9 ∧ b ≤ A t n ∧ (∀ j, j < n → A t j < b) ∧ A (t + 1) n ≤ G t n ∧ (∀ p, p < 9 → p ≠ n → A (t + 1) p ≤ A t p + G t p) ∧ (∃ l, smD G t + l ≤ A t n ∧ fb ≤ l ∧ A t n ≤ 10 * l + 9) ∧ (n < 4 → ∀ p, p < 4 → G t p = 0) ∧ (4 ≤ n → ∀ p, 4 ≤ p → p < 9 → G t p = 0)
def stD (A G : Nat → Nat → Nat) (nd : Nat → Nat) (fo : Nat → Bool) (b fb t : Nat) : Prop :=
  (fo t = true ∧ rsD A (t + 1) ≤ rsD A t ∧ unD A b (t + 1) ≤ unD A b t ∧ ∀ p, 4 ≤ p → p < 9 → A (t + 1) p ≤ A t p) ∨ (fo t = false ∧ reD A G b fb t (nd t))
theorem bgD_mono {b x y : Nat} (h : x ≤ y) : bgD b x ≤ bgD b y := by unfold bgD; split <;> split <;> omega
theorem bgD_z {b : Nat} (h : 0 < b) : bgD b 0 = 0 := if_neg (by omega)
theorem bgD_o {b x : Nat} (h : b ≤ x) : bgD b x = 1 := if_pos h
theorem bgD_le (b x : Nat) : bgD b x ≤ 1 := by unfold bgD; split <;> omega
section DriftA
variable {A G : Nat → Nat → Nat} {nd : Nat → Nat} {fo : Nat → Bool} {b fb : Nat}
theorem gcD_le (p t : Nat) : gcD G fo p t ≤ gcD G fo p (t + 1) := by show _ ≤ _ + _; omega
theorem gcD_re {p t : Nat} (h : fo t = false) : gcD G fo p (t + 1) = gcD G fo p t + G t p := by
  show _ + _ = _
  rw [h]; simp
theorem gcD_fo {p t : Nat} (h : fo t = true) : gcD G fo p (t + 1) = gcD G fo p t := by
  show _ + _ = _
  rw [h]; simp
theorem cnD_re {t : Nat} (h : fo t = false) : cnD fo (t + 1) = cnD fo t + 1 := by
  show _ + _ = _
  rw [h]; simp
theorem cnD_fo {t : Nat} (h : fo t = true) : cnD fo (t + 1) = cnD fo t := by
  show _ + _ = _
  rw [h]; simp
theorem bz_le (k t p : Nat) : bzD G fo k t p ≤ bzD G fo k (t + 1) p := by
  have := gcD_le (G := G) (fo := fo) p t
  unfold bzD
  split <;> omega
theorem zz_le1 (k t : Nat) : zzD G fo k t ≤ zzD G fo k (t + 1) := by
  unfold zzD
  have h4 := bz_le (G := G) (fo := fo) k t 4
  have h5 := bz_le (G := G) (fo := fo) k t 5
  have h6 := bz_le (G := G) (fo := fo) k t 6
  have h7 := bz_le (G := G) (fo := fo) k t 7
  have h8 := bz_le (G := G) (fo := fo) k t 8
  omega
theorem zz_le (k : Nat) {t t' : Nat} (h : t ≤ t') : zzD G fo k t ≤ zzD G fo k t' := by
  obtain ⟨d, rfl⟩ := Nat.le.dest h
  clear h
  induction d with
  | zero => exact Nat.le_refl _
  | succ d ih => exact Nat.le_trans ih (zz_le1 k (t + d))
/-- a book that is not pushed -/
theorem bk_ne {k t p : Nat} (hf : fo t = false) (h : A (t + 1) p ≤ A t p + G t p) : bsD A k (t + 1) p + bzD G fo k (t + 1) p ≤ bsD A k t p + bzD G fo k t p + 10 * G t p := by
  have := gcD_re (G := G) (p := p) hf
  unfold bsD bzD
  split <;> omega
theorem bk_eq {k t p : Nat} (hp : p ≤ k) (h : A (t + 1) p ≤ G t p) : bsD A k (t + 1) p + bzD G fo k (t + 1) p + 10 * A t p ≤ bsD A k t p + bzD G fo k t p + 10 * G t p := by
  unfold bsD bzD
  rw [if_pos hp, if_pos hp, if_pos hp, if_pos hp]
  omega
theorem bk_fo {k t p : Nat} (hf : fo t = true) (h : A (t + 1) p ≤ A t p) : bsD A k (t + 1) p + bzD G fo k (t + 1) p ≤ bsD A k t p + bzD G fo k t p := by
  have := gcD_fo (G := G) (p := p) hf
  unfold bsD bzD
  split <;> omega
theorem lt9 {n : Nat} (h : n < 9) : n = 0 ∨ n = 1 ∨ n = 2 ∨ n = 3 ∨ n = 4 ∨ n = 5 ∨ n = 6 ∨ n = 7 ∨ n = 8 := by omega
theorem ph_re {k t n : Nat} (hf : fo t = false) (h : reD A G b fb t n) (hn : n ≤ k) :
    ∃ l, fb ≤ l ∧ l ≤ A t n ∧ A t n ≤ 10 * l + 9 ∧ (n < 4 → phD A G fo k (t + 1) + 10 * l ≤ phD A G fo k t + A t n ∧ rsD A (t + 1) + A t n ≤ rsD A t) ∧ (4 ≤ n → phD A G fo k (t + 1) + A t n + 9 * l ≤ phD A G fo k t ∧ rsD A (t + 1) + phD A G fo k (t + 1) + 10 * l ≤ rsD A t + phD A G fo k t) := by
  obtain ⟨n9, -, -, hA, hO, ⟨l, hl, hl1, hl2⟩, hr, hk⟩ := h
  refine ⟨l, hl1, by omega, hl2, fun q => ?_, fun q => ?_⟩
  · have g0 := hr q 0 (by omega)
    have g1 := hr q 1 (by omega)
    have g2 := hr q 2 (by omega)
    have g3 := hr q 3 (by omega)
    have k4 := bk_ne (k := k) hf (hO 4 (by omega) (by omega))
    have k5 := bk_ne (k := k) hf (hO 5 (by omega) (by omega))
    have k6 := bk_ne (k := k) hf (hO 6 (by omega) (by omega))
    have k7 := bk_ne (k := k) hf (hO 7 (by omega) (by omega))
    have k8 := bk_ne (k := k) hf (hO 8 (by omega) (by omega))
    unfold phD psD zzD rsD
    unfold smD at hl
    have hc : n = 0 ∨ n = 1 ∨ n = 2 ∨ n = 3 := by omega
    rcases hc with e | e | e | e <;> subst e
    · have a1 := hO 1 (by omega) (by omega); have a2 := hO 2 (by omega) (by omega); have a3 := hO 3 (by omega) (by omega); omega
    · have a0 := hO 0 (by omega) (by omega); have a2 := hO 2 (by omega) (by omega); have a3 := hO 3 (by omega) (by omega); omega
    · have a0 := hO 0 (by omega) (by omega); have a1 := hO 1 (by omega) (by omega); have a3 := hO 3 (by omega) (by omega); omega
    · have a0 := hO 0 (by omega) (by omega); have a1 := hO 1 (by omega) (by omega); have a2 := hO 2 (by omega) (by omega); omega
  · have g4 := hk q 4 (by omega) (by omega)
    have g5 := hk q 5 (by omega) (by omega)
    have g6 := hk q 6 (by omega) (by omega)
    have g7 := hk q 7 (by omega) (by omega)
    have g8 := hk q 8 (by omega) (by omega)
    have a0 := hO 0 (by omega) (by omega)
    have a1 := hO 1 (by omega) (by omega)
    have a2 := hO 2 (by omega) (by omega)
    have a3 := hO 3 (by omega) (by omega)
    have e := bk_eq (G := G) (fo := fo) hn hA
    have f : ∀ p, 4 ≤ p → p < 9 → p ≠ n → bsD A k (t + 1) p + bzD G fo k (t + 1) p ≤ bsD A k t p + bzD G fo k t p + 10 * G t p := fun p _ p2 p3 => bk_ne hf (hO p p2 p3)
    unfold phD psD zzD rsD
    unfold smD at hl
    have hc : n = 4 ∨ n = 5 ∨ n = 6 ∨ n = 7 ∨ n = 8 := by omega
    rcases hc with z | z | z | z | z <;> subst z
    · have f5 := f 5 (by omega) (by omega) (by omega); have f6 := f 6 (by omega) (by omega) (by omega); have f7 := f 7 (by omega) (by omega) (by omega); have f8 := f 8 (by omega) (by omega) (by omega); omega
    · have f5 := f 4 (by omega) (by omega) (by omega); have f6 := f 6 (by omega) (by omega) (by omega); have f7 := f 7 (by omega) (by omega) (by omega); have f8 := f 8 (by omega) (by omega) (by omega); omega
    · have f5 := f 4 (by omega) (by omega) (by omega); have f6 := f 5 (by omega) (by omega) (by omega); have f7 := f 7 (by omega) (by omega) (by omega); have f8 := f 8 (by omega) (by omega) (by omega); omega
    · have f5 := f 4 (by omega) (by omega) (by omega); have f6 := f 5 (by omega) (by omega) (by omega); have f7 := f 6 (by omega) (by omega) (by omega); have f8 := f 8 (by omega) (by omega) (by omega); omega
    · have f5 := f 4 (by omega) (by omega) (by omega); have f6 := f 5 (by omega) (by omega) (by omega); have f7 := f 6 (by omega) (by omega) (by omega); have f8 := f 7 (by omega) (by omega) (by omega); omega
theorem ph_fo {k t : Nat} (hf : fo t = true) (h1 : rsD A (t + 1) ≤ rsD A t) (h2 : ∀ p, 4 ≤ p → p < 9 → A (t + 1) p ≤ A t p) : phD A G fo k (t + 1) ≤ phD A G fo k t := by
  have k4 := bk_fo (G := G) (k := k) hf (h2 4 (by omega) (by omega))
  have k5 := bk_fo (G := G) (k := k) hf (h2 5 (by omega) (by omega))
  have k6 := bk_fo (G := G) (k := k) hf (h2 6 (by omega) (by omega))
  have k7 := bk_fo (G := G) (k := k) hf (h2 7 (by omega) (by omega))
  have k8 := bk_fo (G := G) (k := k) hf (h2 8 (by omega) (by omega))
  unfold phD psD zzD
  omega
/-- pushes of readers alone: four at most -/
theorem un_re {t n : Nat} (hb : 0 < b) (h : reD A G b fb t n) (hn : n < 4) : unD A b (t + 1) + 1 ≤ unD A b t := by
  obtain ⟨n9, hB, -, hA, hO, -, hr, -⟩ := h
  have g0 := hr hn 0 (by omega)
  have g1 := hr hn 1 (by omega)
  have g2 := hr hn 2 (by omega)
  have g3 := hr hn 3 (by omega)
  have f : ∀ p, p < 4 → p ≠ n → bgD b (A (t + 1) p) ≤ bgD b (A t p) := fun p p1 p2 => bgD_mono (by have := hO p (by omega) p2; have := hr hn p p1; omega)
  have e : bgD b (A (t + 1) n) + 1 ≤ bgD b (A t n) := by
    have z : A (t + 1) n = 0 := by have := hr hn n hn; omega
    rw [z, bgD_z hb, bgD_o hB]
    exact Nat.le_refl _
  unfold unD
  have hc : n = 0 ∨ n = 1 ∨ n = 2 ∨ n = 3 := by omega
  rcases hc with z | z | z | z <;> subst z
  · have := f 1 (by omega) (by omega); have := f 2 (by omega) (by omega); have := f 3 (by omega) (by omega); omega
  · have := f 0 (by omega) (by omega); have := f 2 (by omega) (by omega); have := f 3 (by omega) (by omega); omega
  · have := f 0 (by omega) (by omega); have := f 1 (by omega) (by omega); have := f 3 (by omega) (by omega); omega
  · have := f 0 (by omega) (by omega); have := f 1 (by omega) (by omega); have := f 2 (by omega) (by omega); omega
/-- a stretch of pushes at nodes up to k -/
def sgD (nd : Nat → Nat) (fo : Nat → Bool) (k t0 t1 : Nat) : Prop := ∀ t, t0 ≤ t → t < t1 → fo t = true ∨ nd t ≤ k
theorem seg_read {k T t0 : Nat} (hb : 0 < b) (hk : 3 ≤ k) (hS : ∀ t, t < T → stD A G nd fo b fb t) : ∀ d, t0 + d ≤ T → sgD nd fo 3 t0 (t0 + d) → cnD fo (t0 + d) + unD A b (t0 + d) ≤ cnD fo t0 + unD A b t0 ∧ phD A G fo k (t0 + d) + 9 * cnD fo t0 ≤ phD A G fo k t0 + 9 * cnD fo (t0 + d)
  | 0, _, _ => ⟨Nat.le_refl _, Nat.le_refl _⟩
  | d + 1, hd, hs => by
    obtain ⟨i1, i2⟩ := seg_read hb hk hS d (by omega) (fun t q1 q2 => hs t q1 (by omega))
    rw [show t0 + (d + 1) = t0 + d + 1 from rfl]
    rcases hS (t0 + d) (by omega) with ⟨f, s1, s2, s3⟩ | ⟨f, s⟩
    · have := ph_fo (G := G) (k := k) f s1 s3
      rw [cnD_fo f]
      exact ⟨by omega, by omega⟩
    · have hn : nd (t0 + d) ≤ 3 := by
        rcases hs (t0 + d) (by omega) (by omega) with q | q
        · rw [f] at q; cases q
        · exact q
      obtain ⟨l, l1, l2, l3, l4, -⟩ := ph_re (k := k) f s (by omega)
      have u := un_re hb s (by omega)
      have l5 := (l4 (by omega)).1
      rw [cnD_re f]
      exact ⟨by omega, by omega⟩
theorem un_le4 (t : Nat) : unD A b t ≤ 4 := by
  unfold unD
  have := bgD_le b (A t 0); have := bgD_le b (A t 1); have := bgD_le b (A t 2); have := bgD_le b (A t 3)
  omega
/-- each push lands fb -/
theorem seg_crude {k T t0 : Nat} (hk : 3 ≤ k) (hS : ∀ t, t < T → stD A G nd fo b fb t) : ∀ d, t0 + d ≤ T → sgD nd fo k t0 (t0 + d) → cnD fo (t0 + d) * (10 * fb) + (phD A G fo k (t0 + d) + rsD A (t0 + d)) ≤ cnD fo t0 * (10 * fb) + (phD A G fo k t0 + rsD A t0)
  | 0, _, _ => Nat.le_refl _
  | d + 1, hd, hs => by
    have i1 := seg_crude hk hS d (by omega) (fun t q1 q2 => hs t q1 (by omega))
    rw [show t0 + (d + 1) = t0 + d + 1 from rfl]
    rcases hS (t0 + d) (by omega) with ⟨f, s1, s2, s3⟩ | ⟨f, s⟩
    · have := ph_fo (G := G) (k := k) f s1 s3
      rw [cnD_fo f]
      omega
    · have hn : nd (t0 + d) ≤ k := by
        rcases hs (t0 + d) (by omega) (by omega) with q | q
        · rw [f] at q; cases q
        · exact q
      obtain ⟨l, l1, l2, l3, l4, l5⟩ := ph_re (k := k) f s hn
      rw [cnD_re f, Nat.add_mul, Nat.one_mul]
      by_cases q : nd (t0 + d) < 4
      · obtain ⟨m1, m2⟩ := l4 q
        omega
      · obtain ⟨m1, m2⟩ := l5 (by omega)
        omega
/-- the first time of a kind, or none -/
theorem first_of (P : Nat → Prop) (t0 : Nat) : ∀ d, (∀ t, t0 ≤ t → t < t0 + d → ¬ P t) ∨ ∃ x, t0 ≤ x ∧ x < t0 + d ∧ P x ∧ ∀ t, t0 ≤ t → t < x → ¬ P t
  | 0 => Or.inl (fun t q1 q2 => by omega)
  | d + 1 => by
    rcases first_of P t0 d with h | ⟨x, x1, x2, x3, x4⟩
    · by_cases q : P (t0 + d)
      · exact Or.inr ⟨t0 + d, by omega, by omega, q, h⟩
      · refine Or.inl (fun t q1 q2 => ?_)
        by_cases e : t = t0 + d
        · rw [e]; exact q
        · exact h t q1 (by omega)
    · exact Or.inr ⟨x, x1, by omega, x3, x4⟩
/-- from level k to the next: the book k + 1 is not pushed -/
theorem seg_conv {k T t0 : Nat} (hk : 3 ≤ k) (hk8 : k < 8) (hS : ∀ t, t < T → stD A G nd fo b fb t) : ∀ d, t0 + d ≤ T → sgD nd fo k t0 (t0 + d) → phD A G fo (k + 1) (t0 + d) + phD A G fo k t0 ≤ phD A G fo (k + 1) t0 + phD A G fo k (t0 + d) := by
  have key : ∀ t, phD A G fo (k + 1) t + 10 * gcD G fo (k + 1) t = phD A G fo k t + 10 * A t (k + 1) := fun t => by
    have hc : k = 3 ∨ k = 4 ∨ k = 5 ∨ k = 6 ∨ k = 7 := by omega
    unfold phD psD zzD bsD bzD
    rcases hc with z | z | z | z | z <;> subst z <;> simp <;> omega
  intro d hd hs
  have go : ∀ d, t0 + d ≤ T → sgD nd fo k t0 (t0 + d) → A (t0 + d) (k + 1) + gcD G fo (k + 1) t0 ≤ A t0 (k + 1) + gcD G fo (k + 1) (t0 + d) := by
    intro d
    induction d with
    | zero => intro _ _; exact Nat.le_refl _
    | succ d ih =>
      intro hd hs
      have i1 := ih (by omega) (fun t q1 q2 => hs t q1 (by omega))
      rw [show t0 + (d + 1) = t0 + d + 1 from rfl]
      rcases hS (t0 + d) (by omega) with ⟨f, s1, s2, s3⟩ | ⟨f, s⟩
      · have := s3 (k + 1) (by omega) (by omega)
        rw [gcD_fo f]; omega
      · have hn : nd (t0 + d) ≤ k := by
          rcases hs (t0 + d) (by omega) (by omega) with q | q
          · rw [f] at q; cases q
          · exact q
        have := s.2.2.2.2.1 (k + 1) (by omega) (by omega)
        rw [gcD_re f]; omega
  have g := go d hd hs
  have k0 := key t0
  have k1 := key (t0 + d)
  omega
end DriftA
