/-! what holds between two calls, and how a mending call keeps it -/
theorem wOf_cg {I I' : SI} (e : ∀ a, 3 ≤ a → a < 8 → I' a = I a) {r b : Nat} (hr : r < 4) : wOf I' r b = wOf I r b := by
  unfold wOf
  rw [e 7 (by omega) (by omega), e (3 + r) (by omega) (by omega)]
theorem wM_cg {I I' : SI} (e : ∀ a, 3 ≤ a → a < 8 → I' a = I a) (n o : Nat) : wM I' n o = wM I n o := by
  unfold wM
  by_cases q1 : n < 4
  · by_cases q2 : o < 4
    · rw [if_pos q1, if_pos q1, if_pos q2, if_pos q2]
    · rw [if_pos q1, if_pos q1, if_neg q2, if_neg q2, wOf_cg e q1]
  · by_cases q2 : o < 4
    · rw [if_neg q1, if_neg q1, if_pos q2, if_pos q2, wOf_cg e q2]
    · rw [if_neg q1, if_neg q1, if_neg q2, if_neg q2]
theorem cN_cg {I I' : SI} (e : ∀ a, 3 ≤ a → a < 8 → I' a = I a) (n : Nat) : ∀ m, cN I' n m = cN I n m
  | 0 => rfl
  | m + 1 => by unfold cN; rw [cN_cg e n m, wM_cg e]
theorem sM_cg {I I' : SI} (e : ∀ a, 3 ≤ a → a < 8 → I' a = I a) (n : Nat) : ∀ m, sM I' n m = sM I n m
  | 0 => rfl
  | m + 1 => by unfold sM; rw [sM_cg e n m, wM_cg e]
theorem full_cg {I0 I0' I I' : SI} (e0 : ∀ a, 3 ≤ a → a < 8 → I0' a = I0 a) (e : ∀ a, 9 ≤ a → a < 30 → I' a = I a) (h : NetFull I0 I) : NetFull I0' I' := fun n hn => by
  obtain ⟨g1, g2, g3, g4⟩ := h n hn
  refine ⟨fun o ho => ?_, ?_, fun o ho hw => ?_, ?_⟩
  · rw [e _ (by omega) (by omega), wM_cg e0]; exact g1 o ho
  · rw [e _ (by omega) (by omega), cN_cg e0]; exact g2
  · rw [wM_cg e0] at hw
    rw [e _ (by omega) (by omega), cN_cg e0]
    exact g3 o ho hw
  · rw [e _ (by omega) (by omega), sM_cg e0]; exact g4
theorem twIn_far {I0 I : SI} {r a : Nat} (hr : r < 4) (h : a < 9 ∨ a = 18 ∨ 30 ≤ a) : ∀ b, b ≤ 5 → twIn I0 r I b a = I a
  | 0, _ => rfl
  | b + 1, hb => by
    unfold twIn twStep
    rw [tnI_far (by omega) (by omega) (by omega) (by omega), tnI_far (by omega) (by omega) (by omega) (by omega)]
    exact twIn_far hr h b (by omega)
theorem twOut_far {I0 : SI} {a : Nat} (h : a < 9 ∨ a = 18 ∨ 30 ≤ a) : ∀ r, r ≤ 4 → twOut I0 r a = I0 a
  | 0, _ => tw0_far I0 (by omega) (by omega) 9
  | r + 1, hr => by
    unfold twOut
    rw [twIn_far (by omega) h 5 (Nat.le_refl _)]
    exact twOut_far h r (by omega)
theorem tellI_f {I0 : SI} {a : Nat} (h : a < 9 ∨ a = 18 ∨ 30 ≤ a) : tellI I0 a = I0 a := twOut_far h 4 (Nat.le_refl _)
theorem offZ_cg {I I' : SI} (e : ∀ a, 9 ≤ a → a < 18 → I' a = I a) (h : offZ I) : offZ I' := fun n o hn ho q => by rw [e _ (by omega) (by omega)]; exact h n o hn ho q
theorem pcS_cg {I I' : SI} (e : ∀ w, w < 4 → I' (31 + w) 5 = I (31 + w) 5) : ∀ w, w ≤ 4 → pcS I' w = pcS I w
  | 0, _ => rfl
  | w + 1, hw => by unfold pcS; rw [pcS_cg e w (by omega), e w (by omega)]
/-- the class's text row: no growth, one byte a sign -/
def sbOK (I : SI) : Prop := I 100 1 = 0 ∧ ∃ n, n ≤ 16 ∧ I 100 3 = nI n
/-- what holds between two calls; j counts the settlings since the last beginning -/
def Inv (j : Nat) (I : SI) (J : SJ) (X : SX) : Prop := RelN I I ∧ W99 I ∧ NetFull I I ∧ offZ I ∧ I 0 5 = I 102 2 ∧ I 0 6 = I 102 3 ∧ dbOK I ∧ (∀ w, w < 4 → I (31 + w) 1 = nI w) ∧ (∀ w, w < 4 → RelW w J J) ∧ pcS I 4 = I 102 4 ∧ DrA I j J ∧ (∀ i, i < 9 → X 99 i = X 110 i) ∧ sbOK I
/-- the class's run leaves all rows but its walks' -/
theorem sqC_far {I0 I1 I2 : SI} {J1 J2 : SJ} {F : Nat} (hW : W99 I0) (hF : NetFull I0 I1) (hR : RelN I0 I2) (hd : I1 0 5 = I2 102 2) (hb : I1 0 6 = I2 102 3) (hJ : ∀ w, w < 4 → RelW w J1 J2)
    (hT : TermR (loF I0) F I2 (mdA I2 (loF I0) J2 4)) : ∀ w, w ≤ 4 → ∀ a, 83 ≤ a → (sqC I0 F I1 J1 w).2 a = J1 a
  | 0, _, a, _ => rfl
  | w + 1, hw, a, ha => by
    have ih := sqC_far hW hF hR hd hb hJ hT w (by omega) a ha
    obtain ⟨i1, i2, i3, i4⟩ := rel_mends hW hF hR hd hb hJ hT w (by omega)
    obtain ⟨s, hs⟩ := hT w (by omega)
    have hw4 : w < 4 := by omega
    obtain ⟨r1, r2, -⟩ := rel_md (I0 := I0) (I1 := (sqC I0 F I1 J1 w).1) (I2 := I2) (full_far hF (fun x y q => i1.1 x y (Or.inl q))) hW hR hw4 (mdA_lo (I0 := I0) (I2 := I2) hw4 (i2 w hw4 (Nat.le_refl _)) w (Nat.le_refl _)) 9 (Nat.le_refl _)
    have r3 := mdA_hi (I0 := I0) (I2 := I2) (J2 := J2) hw4 r1 (3 - w) (by omega)
    rw [show w + 1 + (3 - w) = 4 from by omega] at r3
    obtain ⟨s', g1, g2, g3, g4⟩ := sq_step hW hF hR hd hb hw4 i1 (i3 w _ hw4 (Nat.le_refl _) r3) r2 hs
    have eC : sqC I0 F I1 J1 (w + 1) = s' := by
      conv => lhs; unfold sqC
      rw [g1]; rfl
    rw [eC]
    exact (g3 a (by omega) (by omega) (by omega)).trans ih
theorem sqB_far {I0 I1 I2 : SI} {J1 J2 : SJ} {F : Nat} (hW : W99 I0) (hF : NetFull I0 I1) (hR : RelN I0 I2) (hd : I1 0 5 = I2 102 2) (hb : I1 0 6 = I2 102 3)
    (hT : TermR (loF I0) F I2 (beginM J2)) : ∀ w, w ≤ 4 → ∀ a, 83 ≤ a → (sqB I0 F I1 J1 w).2 a = J1 a
  | 0, _, a, _ => rfl
  | w + 1, hw, a, ha => by
    have ih := sqB_far (J1 := J1) hW hF hR hd hb hT w (by omega) a ha
    obtain ⟨i1, i3, i4⟩ := rel_begins (J1 := J1) hW hF hR hd hb hT w (by omega)
    obtain ⟨s, hs⟩ := hT w (by omega)
    have hw4 : w < 4 := by omega
    obtain ⟨r1, r2⟩ := rel_begin (J := (sqB I0 F I1 J1 w).2) (J2 := J2) hw4
    obtain ⟨s', g1, g2, g3, g4⟩ := sq_step hW hF hR hd hb hw4 i1 (i3 w _ hw4 (Nat.le_refl _) r1) r2 hs
    have eC : sqB I0 F I1 J1 (w + 1) = s' := by
      conv => lhs; unfold sqB
      rw [g1]; rfl
    rw [eC]
    exact (g3 a (by omega) (by omega) (by omega)).trans ih
/-- the reference's run leaves all rows but its own three -/
theorem sqR_far {I0 I2 : SI} {J2 : SJ} {F : Nat} (hT : TermR (loF I0) F I2 J2) : ∀ v, v ≤ 4 → ∀ a, a < 105 → (sqR (loF I0) F I2 J2 v).2 a = J2 a
  | 0, _, a, _ => rfl
  | v + 1, hv, a, ha => by
    have ih := sqR_far hT v (by omega) a ha
    obtain ⟨s, hs⟩ := hT v (by omega)
    have eR : sqR (loF I0) F I2 J2 (v + 1) = s := by
      conv => lhs; unfold sqR
      rw [hs]; rfl
    rw [eR]
    obtain ⟨r1, -⟩ := run_frame (by omega : v < 4) F _ _ s hs
    exact (funext fun q => r1 a q (by omega) (by omega) (by omega)).trans ih
theorem mdA_far {I0 I2 : SI} {J2 : SJ} : ∀ k, k ≤ 4 → ∀ a, a < 105 → mdA I2 (loF I0) J2 k a = J2 a
  | 0, _, _, _ => rfl
  | k + 1, hk, a, ha => (funext fun q => (fR_md (I0 := I0) (I2 := I2) (J := mdA I2 (loF I0) J2 k) (by omega : k < 4) 9 (Nat.le_refl _)) a q (by omega) (by omega) (by omega)).trans (mdA_far k (by omega) a ha)
theorem begM_far {J2 : SJ} {a : Nat} (ha : a < 105) : beginM J2 a = J2 a := by
  have b1 : ∀ k, bm1 J2 k a = J2 a := by
    intro k
    induction k with
    | zero => rfl
    | succ k ih => unfold bm1; rw [st2_k _ _ (by omega)]; exact ih
  have b2 : ∀ (Y : SJ) k, bm2 Y k a = Y a := by
    intro Y k
    induction k with
    | zero => rfl
    | succ k ih => unfold bm2; rw [st2_k _ _ (by omega), st2_k _ _ (by omega)]; exact ih
  unfold beginM
  rw [b2, b1]
theorem RelW_to {w : Nat} {A A' B : SJ} (hw : w < 4) (e : ∀ a, a < 83 → A' a = A a) (h : RelW w A B) : RelW w A' B := fun n hn => by
  obtain ⟨a, b, c⟩ := h n hn
  exact ⟨by rw [e _ (by omega)]; exact a, by rw [e _ (by omega)]; exact b, fun o ho => by rw [e _ (by omega)]; exact c o ho⟩
theorem RelW_of {w : Nat} {A B B' : SJ} (e : ∀ a, 105 ≤ a → a < 108 → B' a = B a) (h : RelW w A B) : RelW w A B' := fun n hn => by
  obtain ⟨a, b, c⟩ := h n hn
  exact ⟨by rw [e _ (by omega) (by omega)]; exact a, by rw [e _ (by omega) (by omega)]; exact b, fun o ho => by rw [e _ (by omega) (by omega)]; exact c o ho⟩
theorem DrA_of {I I' : SI} {J J' : SJ} {j : Nat} (e1 : I' 102 2 = I 102 2) (e2 : I' 102 3 = I 102 3) (e : ∀ a, 105 ≤ a → a < 108 → J' a = J a) (h : DrA I j J) : DrA I' j J' := fun v hv => by
  rw [e1, e2]
  exact sm_Dr ⟨fun p hp => by rw [e _ (by omega) (by omega)], fun n o hn ho => by rw [e _ (by omega) (by omega)]⟩ (h v hv)
/-- a call that mends: the class's contract and the reference's have what they ask for, and all holds again -/
theorem call_mend {j : Nat} {I : SI} {J : SJ} {X : SX} (h : Inv j I J X) (hj : j < 513) {C : SI} (c1 : ∀ a, a < 3 ∨ 8 ≤ a → C a = I a) (hW : W99 C) {I2 : SI}
    (r1 : ∀ a, a ≠ 102 → a ≠ 103 → a ≠ 104 → I2 a = (sqC C 10000000 (tellI C) J 4).1 a) (r2 : ∀ y, y ≠ 14 → I2 102 y = (sqC C 10000000 (tellI C) J 4).1 102 y) (hR : RelN C I2) :
    MendOK (cnF C) (nbF C) (fun w => (sqC C 10000000 (tellI C) J w).1) (fun w => (sqC C 10000000 (tellI C) J w).2) ∧
    SettOK (loF C) (fun v => (sqR (loF C) 10000000 I2 (mdA I2 (loF C) (sqC C 10000000 (tellI C) J 4).2 4) v).1) (fun v => (sqR (loF C) 10000000 I2 (mdA I2 (loF C) (sqC C 10000000 (tellI C) J 4).2 4) v).2) ∧
    Inv (j + 1) (sqR (loF C) 10000000 I2 (mdA I2 (loF C) (sqC C 10000000 (tellI C) J 4).2 4) 4).1 (sqR (loF C) 10000000 I2 (mdA I2 (loF C) (sqC C 10000000 (tellI C) J 4).2 4) 4).2 X ∧
    ∀ a b, ¬ (a = 102 ∧ b = 4) → (sqR (loF C) 10000000 I2 (mdA I2 (loF C) (sqC C 10000000 (tellI C) J 4).2 4) 4).1 a b = I2 a b := by
  obtain ⟨hRI, hWI, hFI, hOI, hdI, hbI, hdb, hrd, hJ, hpc, hDr, hX, hsb⟩ := h
  have hOC : offZ C := offZ_cg (fun a q1 q2 => c1 a (Or.inr (by omega))) hOI
  obtain ⟨hF, hO⟩ := tell_full (I0 := C) (W99.pos hW) hOC
  -- a world for the reference that doesn't hang on the class's run: so as to have the class's frame
  obtain ⟨I3, e3⟩ : ∃ I3 : SI, I3 = fun a => if a = 103 then fun q => C (3 + q / 5) (q % 5) else if a = 104 then C 7 else I a := ⟨_, rfl⟩
  have a3 : ∀ a, a ≠ 103 → a ≠ 104 → I3 a = I a := fun a q1 q2 => by rw [e3]; dsimp only; rw [if_neg q1, if_neg q2]
  have hR3 : RelN C I3 := ⟨fun r b hr hb => by
    rw [e3]
    dsimp only
    rw [if_pos rfl, show (5 * r + b) / 5 = r from by omega, show (5 * r + b) % 5 = b from by omega], fun b hb => by
    rw [e3]
    dsimp only
    rw [if_neg (by decide), if_pos rfl]⟩
  have hdb3 : dbOK I3 := by unfold dbOK; rw [a3 102 (by decide) (by decide)]; exact hdb
  obtain ⟨hT3, -⟩ := mends_dr hW hR3 hdb3 hj (DrA_of (by rw [a3 102 (by decide) (by decide)]) (by rw [a3 102 (by decide) (by decide)]) (fun _ _ _ => rfl) hDr)
  have hd3 : tellI C 0 5 = I3 102 2 := by rw [tellI_f (by omega), c1 0 (by omega), a3 102 (by decide) (by decide)]; exact hdI
  have hb3 : tellI C 0 6 = I3 102 3 := by rw [tellI_f (by omega), c1 0 (by omega), a3 102 (by decide) (by decide)]; exact hbI
  obtain ⟨⟨fI, -, -, -⟩, -, -, -⟩ := rel_mends hW hF hR3 hd3 hb3 hJ hT3 4 (Nat.le_refl _)
  have fJ := sqC_far hW hF hR3 hd3 hb3 hJ hT3 4 (Nat.le_refl _)
  -- the class's end
  have gI : ∀ x y, (x < 31 ∨ 35 ≤ x ∨ y ≠ 5) → (sqC C 10000000 (tellI C) J 4).1 x y = tellI C x y := fI
  have gF : ∀ x y, 30 ≤ x → (35 ≤ x ∨ y ≠ 5) → x < 103 ∨ 104 < x → (sqC C 10000000 (tellI C) J 4).1 x y = I x y := fun x y q1 q2 q3 => by
    rw [gI x y (by omega), tellI_f (by omega), c1 x (by omega)]
  have pd : I2 102 2 = I 102 2 := (r2 2 (by decide)).trans (gF 102 2 (by omega) (by omega) (by omega))
  have pb : I2 102 3 = I 102 3 := (r2 3 (by decide)).trans (gF 102 3 (by omega) (by omega) (by omega))
  have hd2 : tellI C 0 5 = I2 102 2 := by rw [tellI_f (by omega), c1 0 (by omega), pd]; exact hdI
  have hb2 : tellI C 0 6 = I2 102 3 := by rw [tellI_f (by omega), c1 0 (by omega), pb]; exact hbI
  have hdb2 : dbOK I2 := by unfold dbOK; rw [pd, pb]; exact hdb
  have fJ2 : ∀ a, 105 ≤ a → a < 108 → (sqC C 10000000 (tellI C) J 4).2 a = J a := fun a q _ => fJ a (by omega)
  have hJ2 : ∀ w, w < 4 → RelW w J (sqC C 10000000 (tellI C) J 4).2 := fun w hw => RelW_of fJ2 (hJ w hw)
  obtain ⟨hT, hDr2⟩ := mends_dr hW hR hdb2 hj (DrA_of pd pb fJ2 hDr)
  have hrd2 : ∀ w, w < 4 → tellI C (31 + w) 1 = nI w := fun w hw => by rw [tellI_f (by omega), c1 _ (by omega)]; exact hrd w hw
  obtain ⟨mk1, mk2⟩ := mend_ok (F := 10000000) (Nat.le_refl _) hW hF hR hd2 hb2 hrd2 hJ2 hT
  obtain ⟨⟨-, s2, ⟨t, s3, s4⟩, s5⟩, -, -, -⟩ := rel_mends hW hF hR hd2 hb2 hJ2 hT 4 (Nat.le_refl _)
  have tJ : ∀ a, a < 105 → (sqR (loF C) 10000000 I2 (mdA I2 (loF C) (sqC C 10000000 (tellI C) J 4).2 4) 4).2 a = (sqC C 10000000 (tellI C) J 4).2 a := fun a ha => (sqR_far hT 4 (Nat.le_refl _) a ha).trans (mdA_far 4 (Nat.le_refl _) a ha)
  refine ⟨mk1, mk2, ?_, s2⟩
  generalize sqR (loF C) 10000000 I2 (mdA I2 (loF C) (sqC C 10000000 (tellI C) J 4).2 4) 4 = T at *
  have tI : ∀ x y, x ≠ 102 → x ≠ 103 → x ≠ 104 → T.1 x y = (sqC C 10000000 (tellI C) J 4).1 x y := fun x y q1 q2 q3 => by rw [s2 x y (by omega), r1 x q1 q2 q3]
  have tC : ∀ a, 3 ≤ a → a < 8 → T.1 a = C a := fun a q1 q2 => funext fun y => by rw [tI a y (by omega) (by omega) (by omega), gI a y (by omega), tellI_f (by omega)]
  have tN : ∀ a, 9 ≤ a → a < 30 → T.1 a = tellI C a := fun a q1 q2 => funext fun y => by rw [tI a y (by omega) (by omega) (by omega), gI a y (by omega)]
  have td : T.1 102 2 = I 102 2 := (s2 102 2 (by omega)).trans pd
  have tb : T.1 102 3 = I 102 3 := (s2 102 3 (by omega)).trans pb
  refine ⟨⟨fun r b hr hb => ?_, fun b hb => ?_⟩, w99_far hW (fun a b q1 q2 => by rw [tC a q1 (by omega)]), full_cg tC tN hF, offZ_cg (fun a q1 q2 => tN a q1 (by omega)) hO, ?_, ?_, ?_, fun w hw => ?_, fun w hw => RelW_to hw (fun a ha => tJ a (by omega)) (s5 w hw), ?_, DrA_of (s2 102 2 (by omega)) (s2 102 3 (by omega)) (fun _ _ _ => rfl) hDr2, hX, ?_⟩
  · rw [tC (3 + r) (by omega) (by omega), s2 103 _ (by omega)]; exact hR.1 r b hr hb
  · rw [tC 7 (by omega) (by omega), s2 104 _ (by omega)]; exact hR.2 b hb
  · rw [tI 0 5 (by decide) (by decide) (by decide), gI 0 5 (by omega), tellI_f (by omega), c1 0 (by omega), td]; exact hdI
  · rw [tI 0 6 (by decide) (by decide) (by decide), gI 0 6 (by omega), tellI_f (by omega), c1 0 (by omega), tb]; exact hbI
  · unfold dbOK; rw [td, tb]; exact hdb
  · rw [tI _ 1 (by omega) (by omega) (by omega), gF _ 1 (by omega) (by omega) (by omega)]; exact hrd w hw
  · have e1 : pcS T.1 4 = pcS (sqC C 10000000 (tellI C) J 4).1 4 := pcS_cg (fun w hw => tI _ 5 (by omega) (by omega) (by omega)) 4 (Nat.le_refl _)
    have e2 : pcS (tellI C) 4 = pcS I 4 := pcS_cg (fun w hw => by rw [tellI_f (by omega), c1 _ (by omega)]) 4 (Nat.le_refl _)
    rw [e1, s3, s4, e2, hpc, r2 4 (by decide), gF 102 4 (by omega) (by omega) (by omega)]
  · obtain ⟨b1, n, b2, b3⟩ := hsb
    refine ⟨?_, n, b2, ?_⟩
    · rw [tI 100 1 (by decide) (by decide) (by decide), gF 100 1 (by omega) (by omega) (by omega)]; exact b1
    · rw [tI 100 3 (by decide) (by decide) (by decide), gF 100 3 (by omega) (by omega) (by omega)]; exact b3
/-- a call that begins anew -/
theorem call_begin {j : Nat} {I : SI} {J : SJ} {X : SX} (h : Inv j I J X) {C : SI} (c1 : ∀ a, a ≠ 0 → C a = I a) {I2 : SI} (r1 : ∀ a, a ≠ 102 → I2 a = (sqB I 10000000 C J 4).1 a) (r2 : I2 102 4 = (sqB I 10000000 C J 4).1 102 4) (hd2 : C 0 5 = I2 102 2) (hb2 : C 0 6 = I2 102 3) (hdb2 : dbOK I2) :
    BeginOK (cnF I) (nbF I) (fun w => (sqB I 10000000 C J w).1) (fun w => (sqB I 10000000 C J w).2) ∧
    SettOK (loF I) (fun v => (sqR (loF I) 10000000 I2 (beginM (sqB I 10000000 C J 4).2) v).1) (fun v => (sqR (loF I) 10000000 I2 (beginM (sqB I 10000000 C J 4).2) v).2) ∧
    Inv 0 (sqR (loF I) 10000000 I2 (beginM (sqB I 10000000 C J 4).2) 4).1 (sqR (loF I) 10000000 I2 (beginM (sqB I 10000000 C J 4).2) 4).2 X ∧
    ∀ a b, ¬ (a = 102 ∧ b = 4) → (sqR (loF I) 10000000 I2 (beginM (sqB I 10000000 C J 4).2) 4).1 a b = I2 a b := by
  obtain ⟨hRI, hW, hFI, hOI, hdI, hbI, hdb, hrd, hJ, hpc, hDr, hX, hsb⟩ := h
  have hF : NetFull I C := full_cg (fun _ _ _ => rfl) (fun a q1 q2 => c1 a (by omega)) hFI
  obtain ⟨I3, e3⟩ : ∃ I3 : SI, I3 = fun a => if a = 102 then I2 102 else I a := ⟨_, rfl⟩
  have a3 : ∀ a, a ≠ 102 → I3 a = I a := fun a q => by rw [e3]; dsimp only; rw [if_neg q]
  have b3 : I3 102 = I2 102 := by rw [e3]; dsimp only; rw [if_pos rfl]
  have hR3 : RelN I I3 := ⟨fun r b hr hb => by rw [a3 103 (by decide)]; exact hRI.1 r b hr hb, fun b hb => by rw [a3 104 (by decide)]; exact hRI.2 b hb⟩
  have hdb3 : dbOK I3 := by unfold dbOK; rw [b3]; exact hdb2
  obtain ⟨hT3, -⟩ := begins_dr (J2 := J) hW hR3 hdb3
  obtain ⟨⟨gI, -, -, -⟩, -, -⟩ := rel_begins (J1 := J) hW hF hR3 (by rw [b3]; exact hd2) (by rw [b3]; exact hb2) hT3 4 (Nat.le_refl _)
  have gI : ∀ x y, (x < 31 ∨ 35 ≤ x ∨ y ≠ 5) → (sqB I 10000000 C J 4).1 x y = C x y := gI
  have hR : RelN I I2 := ⟨fun r b hr hb => by rw [r1 103 (by decide), gI 103 _ (by omega), c1 103 (by decide)]; exact hRI.1 r b hr hb, fun b hb => by rw [r1 104 (by decide), gI 104 _ (by omega), c1 104 (by decide)]; exact hRI.2 b hb⟩
  obtain ⟨hT, hDr2⟩ := begins_dr (J2 := (sqB I 10000000 C J 4).2) hW hR hdb2
  have hrd2 : ∀ w, w < 4 → C (31 + w) 1 = nI w := fun w hw => by rw [c1 _ (by omega)]; exact hrd w hw
  obtain ⟨mk1, mk2⟩ := begin_ok (F := 10000000) (J1 := J) (Nat.le_refl _) hW hF hR hd2 hb2 hrd2 hT
  obtain ⟨⟨-, s2, ⟨t, s3, s4⟩, s5⟩, -, -⟩ := rel_begins (J1 := J) hW hF hR hd2 hb2 hT 4 (Nat.le_refl _)
  have tJ : ∀ a, a < 105 → (sqR (loF I) 10000000 I2 (beginM (sqB I 10000000 C J 4).2) 4).2 a = (sqB I 10000000 C J 4).2 a := fun a ha => (sqR_far hT 4 (Nat.le_refl _) a ha).trans (begM_far ha)
  refine ⟨mk1, mk2, ?_, s2⟩
  generalize sqR (loF I) 10000000 I2 (beginM (sqB I 10000000 C J 4).2) 4 = T at *
  have tI : ∀ x y, x ≠ 102 → T.1 x y = (sqB I 10000000 C J 4).1 x y := fun x y q1 => by rw [s2 x y (by omega), r1 x q1]
  have tF : ∀ a, 1 ≤ a → (a < 31 ∨ 35 ≤ a) → a ≠ 102 → T.1 a = I a := fun a q1 q2 q3 => funext fun y => by rw [tI a y q3, gI a y (by omega), c1 a (by omega)]
  have td : T.1 102 2 = I2 102 2 := s2 102 2 (by omega)
  have tb : T.1 102 3 = I2 102 3 := s2 102 3 (by omega)
  refine ⟨⟨fun r b hr hb => ?_, fun b hb => ?_⟩, w99_far hW (fun a b q1 q2 => by rw [tF a (by omega) (by omega) (by omega)]), full_cg (fun a q1 q2 => tF a (by omega) (by omega) (by omega)) (fun a q1 q2 => tF a (by omega) (by omega) (by omega)) hFI, offZ_cg (fun a q1 q2 => tF a (by omega) (by omega) (by omega)) hOI, ?_, ?_, ?_, fun w hw => ?_, fun w hw => RelW_to hw (fun a ha => tJ a (by omega)) (s5 w hw), ?_, DrA_of td tb (fun _ _ _ => rfl) hDr2, hX, ?_⟩
  · rw [tF (3 + r) (by omega) (by omega) (by omega), tF 103 (by omega) (by omega) (by omega)]; exact hRI.1 r b hr hb
  · rw [tF 7 (by omega) (by omega) (by omega), tF 104 (by omega) (by omega) (by omega)]; exact hRI.2 b hb
  · rw [tI 0 5 (by decide), gI 0 5 (by omega), td]; exact hd2
  · rw [tI 0 6 (by decide), gI 0 6 (by omega), tb]; exact hb2
  · unfold dbOK; rw [td, tb]; exact hdb2
  · rw [tI _ 1 (by omega), gI _ 1 (by omega)]; exact hrd2 w hw
  · have e1 : pcS T.1 4 = pcS (sqB I 10000000 C J 4).1 4 := pcS_cg (fun w hw => tI _ 5 (by omega)) 4 (Nat.le_refl _)
    have e2 : pcS C 4 = pcS I 4 := pcS_cg (fun w hw => by rw [c1 _ (by omega)]) 4 (Nat.le_refl _)
    rw [e1, s3, s4, e2, hpc, r2, gI 102 4 (by omega), c1 102 (by decide)]
  · obtain ⟨b1, n, b2, b3⟩ := hsb
    refine ⟨?_, n, b2, ?_⟩
    · rw [tF 100 (by decide) (by omega) (by decide)]; exact b1
    · rw [tF 100 (by decide) (by omega) (by decide)]; exact b3
