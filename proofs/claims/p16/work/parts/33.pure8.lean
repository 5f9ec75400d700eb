/-! all walks mended and settled, side by side -/
theorem fR_tk {J : SJ} {v n : Nat} (hv : v < 4) (hn : n < 9) : ∀ o, o ≤ 9 → fR v J (tkM J v n o).2
  | 0, _ => fR.rf
  | o + 1, ho => by
    unfold tkM
    exact ((fR_tk hv hn o (by omega)).tr (fR_J (by omega))).tr (fR_J (by omega))
theorem fR_md {I0 I2 : SI} {J : SJ} {v : Nat} (hv : v < 4) : ∀ n, n ≤ 9 → fR v J (mdM I2 (loF I0) J v n)
  | 0, _ => fR.rf
  | n + 1, hn => by
    unfold mdM
    exact ((fR_md hv n (by omega)).tr (fR_tk hv (by omega) 9 (Nat.le_refl _))).tr (fR_send hv (by omega))
theorem mdA_lo {I0 I2 : SI} {A J2 : SJ} {x : Nat} (hx : x < 4) (h : RelW x A J2) : ∀ k, k ≤ x → RelW x A (mdA I2 (loF I0) J2 k)
  | 0, _ => h
  | k + 1, hk => (mdA_lo hx h k (by omega)).fR (by omega) hx (by omega) (fR_md (by omega) 9 (Nat.le_refl _))
theorem mdA_hi {I0 I2 : SI} {A J2 : SJ} {x : Nat} (hx : x < 4) (h : RelW x A (mdA I2 (loF I0) J2 (x + 1))) : ∀ t, x + 1 + t ≤ 4 → RelW x A (mdA I2 (loF I0) J2 (x + 1 + t))
  | 0, _ => h
  | t + 1, ht => RelW.fR (v := x + 1 + t) (by omega) hx (by omega) (mdA_hi hx h t (by omega)) (fR_md (v := x + 1 + t) (by omega) 9 (Nat.le_refl _))
def sqC (I0 : SI) (F : Nat) (I1 : SI) (J1 : SJ) : Nat → SI × SJ
  | 0 => (I1, J1)
  | w + 1 => (runF (cnF I0) (nbF I0) w ((sqC I0 F I1 J1 w).1 0 5) ((sqC I0 F I1 J1 w).1 0 6) F (sqC I0 F I1 J1 w).1 (mdL (sqC I0 F I1 J1 w).1 (cnF I0) (nbF I0) (sqC I0 F I1 J1 w).2 w 9)).getD (I1, J1)
def sqB (I0 : SI) (F : Nat) (I1 : SI) (J1 : SJ) : Nat → SI × SJ
  | 0 => (I1, J1)
  | w + 1 => (runF (cnF I0) (nbF I0) w ((sqB I0 F I1 J1 w).1 0 5) ((sqB I0 F I1 J1 w).1 0 6) F (sqB I0 F I1 J1 w).1 (beginJ (sqB I0 F I1 J1 w).2 w)).getD (I1, J1)
def sqR (lo : Nat → Nat → Nat) (F : Nat) (I2 : SI) (J2 : SJ) : Nat → SI × SJ
  | 0 => (I2, J2)
  | v + 1 => (runM lo v F (sqR lo F I2 J2 v).1 (sqR lo F I2 J2 v).2).getD (I2, J2)
/-- the reference settles all walks, F pushes each at most -/
def TermR (lo : Nat → Nat → Nat) (F : Nat) (I2 : SI) (J2 : SJ) : Prop := ∀ v, v < 4 → ∃ s, runM lo v F (sqR lo F I2 J2 v).1 (sqR lo F I2 J2 v).2 = some s
theorem pcS_step {I I' : SI} {v : Nat} {t : Int32} (hv : v < 4) (h1 : ∀ a b, ¬ (a = 31 + v ∧ b = 5) → I' a b = I a b) (h2 : I' (31 + v) 5 = I (31 + v) 5 + t) : pcS I' 4 = pcS I 4 + t := by
  have key : ∀ w, pcS I' w = pcS I w + (if v < w then t else 0) := by
    intro w
    induction w with
    | zero => rw [if_neg (Nat.not_lt_zero _)]; exact (Int32.add_zero _).symm
    | succ w ih =>
      show pcS I' w + I' (31 + w) 5 = pcS I w + I (31 + w) 5 + _
      rw [ih]
      by_cases e : w = v
      · subst e
        rw [h2, if_neg (Nat.lt_irrefl _), if_pos (Nat.lt_succ_self _)]
        grind
      · rw [h1 _ _ (by omega)]
        by_cases q : v < w
        · rw [if_pos q, if_pos (by omega)]; grind
        · rw [if_neg q, if_neg (by omega)]; grind
  rw [key 4, if_pos hv]
/-- what holds behind w walks -/
def sqInv (I1 I2 : SI) (w : Nat) (a b : SI × SJ) : Prop := (∀ x y, (x < 31 ∨ 35 ≤ x ∨ y ≠ 5) → a.1 x y = I1 x y) ∧ (∀ x y, ¬ (x = 102 ∧ y = 4) → b.1 x y = I2 x y) ∧ (∃ t : Int32, pcS a.1 4 = pcS I1 4 + t ∧ b.1 102 4 = I2 102 4 + t) ∧ (∀ x, x < w → RelW x a.2 b.2)
/-- one walk more: B is the class's rows as the walk is to be settled -/
theorem sq_step {I0 I1 I2 : SI} {F w : Nat} {a b : SI × SJ} {B : SJ} {s : SI × SJ} (hW : W99 I0) (hF : NetFull I0 I1) (hR : RelN I0 I2) (hd : I1 0 5 = I2 102 2) (hb : I1 0 6 = I2 102 3) (hw : w < 4)
    (h : sqInv I1 I2 w a b) (hB : RelW w B b.2) (hC : fC w a.2 B) (hs : runM (loF I0) w F b.1 b.2 = some s) :
    ∃ s', runF (cnF I0) (nbF I0) w (a.1 0 5) (a.1 0 6) F a.1 B = some s' ∧ sqInv I1 I2 (w + 1) s' s ∧ fC w a.2 s'.2 ∧ fR w b.2 s.2 := by
  obtain ⟨h1, h2, ⟨t, h3, h4⟩, h5⟩ := h
  obtain ⟨I2', J2'⟩ := s
  obtain ⟨I1', J1', k1, k2, k3, k4, k5, k6, t', k7, k8⟩ := rel_run (d := a.1 0 5) (bd := a.1 0 6) hW hw F a.1 b.1 B b.2 (full_far hF (fun x y q => h1 x y (Or.inl q))) (relN_far hR (fun x y q => h2 x y (fun z => q z.1)))
    (by rw [h1 _ _ (by omega), h2 _ _ (by omega)]; exact hd) (by rw [h1 _ _ (by omega), h2 _ _ (by omega)]; exact hb) hB I2' J2' hs
  refine ⟨(I1', J1'), k1, ⟨fun x y q => (k5 x y (by omega)).trans (h1 x y q), fun x y q => (k6 x y q).trans (h2 x y q), ⟨t + t', ?_, ?_⟩, fun x hx => ?_⟩, hC.tr k3, k4⟩
  · show pcS I1' 4 = _
    rw [pcS_step hw k5 k7, h3, Int32.add_assoc]
  · show I2' 102 4 = _
    rw [k8, h4, Int32.add_assoc]
  · by_cases e : x = w
    · subst e; exact k2
    · exact ((h5 x (by omega)).fC hw (by omega) e (hC.tr k3)).fR hw (by omega) e k4
theorem rel_mends {I0 I1 I2 : SI} {J1 J2 : SJ} {F : Nat} (hW : W99 I0) (hF : NetFull I0 I1) (hR : RelN I0 I2) (hd : I1 0 5 = I2 102 2) (hb : I1 0 6 = I2 102 3) (hJ : ∀ w, w < 4 → RelW w J1 J2)
    (hT : TermR (loF I0) F I2 (mdA I2 (loF I0) J2 4)) : ∀ w, w ≤ 4 →
    sqInv I1 I2 w (sqC I0 F I1 J1 w) (sqR (loF I0) F I2 (mdA I2 (loF I0) J2 4) w) ∧ (∀ x, x < 4 → w ≤ x → RelW x (sqC I0 F I1 J1 w).2 J2) ∧ (∀ x A, x < 4 → w ≤ x → RelW x A (mdA I2 (loF I0) J2 4) → RelW x A (sqR (loF I0) F I2 (mdA I2 (loF I0) J2 4) w).2) ∧
    (∀ x, x < w → runF (cnF I0) (nbF I0) x ((sqC I0 F I1 J1 x).1 0 5) ((sqC I0 F I1 J1 x).1 0 6) F (sqC I0 F I1 J1 x).1 (mdL (sqC I0 F I1 J1 x).1 (cnF I0) (nbF I0) (sqC I0 F I1 J1 x).2 x 9) = some (sqC I0 F I1 J1 (x + 1)))
  | 0, _ => ⟨⟨fun _ _ _ => rfl, fun _ _ _ => rfl, ⟨0, (Int32.add_zero _).symm, (Int32.add_zero _).symm⟩, fun x hx => absurd hx (Nat.not_lt_zero _)⟩, fun x hx _ => hJ x hx, fun x A _ _ q => q, fun x hx => absurd hx (Nat.not_lt_zero _)⟩
  | w + 1, hw => by
    obtain ⟨i1, i2, i3, i4⟩ := rel_mends hW hF hR hd hb hJ hT w (by omega)
    obtain ⟨s, hs⟩ := hT w (by omega)
    have hw4 : w < 4 := by omega
    obtain ⟨r1, r2, -⟩ := rel_md (I0 := I0) (I1 := (sqC I0 F I1 J1 w).1) (I2 := I2) (full_far hF (fun x y q => i1.1 x y (Or.inl q))) hW hR hw4 (mdA_lo (I0 := I0) (I2 := I2) hw4 (i2 w hw4 (Nat.le_refl _)) w (Nat.le_refl _)) 9 (Nat.le_refl _)
    have r3 := mdA_hi (I0 := I0) (I2 := I2) (J2 := J2) hw4 r1 (3 - w) (by omega)
    rw [show w + 1 + (3 - w) = 4 from by omega] at r3
    obtain ⟨s', g1, g2, g3, g4⟩ := sq_step hW hF hR hd hb hw4 i1 (i3 w _ hw4 (Nat.le_refl _) r3) r2 hs
    have eC : sqC I0 F I1 J1 (w + 1) = s' := by
      conv => lhs; unfold sqC
      rw [g1]; rfl
    have eR : sqR (loF I0) F I2 (mdA I2 (loF I0) J2 4) (w + 1) = s := by
      conv => lhs; unfold sqR
      rw [hs]; rfl
    rw [eR]
    refine ⟨by rw [eC]; exact g2, fun x hx q => ?_, fun x A hx q z => ?_, fun x hx => ?_⟩
    · rw [eC]; exact (i2 x hx (by omega)).fC hw4 hx (by omega) g3
    · exact (i3 x A hx (by omega) z).fR hw4 hx (by omega) g4
    · by_cases e : x = w
      · subst e; rw [g1, eC]
      · exact i4 x (by omega)
