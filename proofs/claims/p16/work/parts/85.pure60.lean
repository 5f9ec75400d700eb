/-! a mending call with the law's row told between; what a call that answers leaves; contracts over more -/
theorem Met.weak {l : Launch} {y : MethodName} {ws : List Cond} {rm : Room} {Pc Pd : Array Value → State → Prop} {Qc : Array Value → State → Outcome → State → Prop} {mc ms : Nat} {free : Addr → Prop} (h : Met l y ws rm Pc Qc mc ms free) (w : ∀ a U, Pd a U → Pc a U) : Met l y ws rm Pd Qc mc ms free := fun p e ha hc hk s m args below hf happ hP ht => h p e ha hc hk s m args below hf happ (w _ _ hP) ht
theorem sqR_far2 {I0 I2 : SI} {J2 : SJ} {F : Nat} (hT : TermR (loF I0) F I2 J2) : ∀ v, v ≤ 4 → ∀ a, 108 ≤ a → (sqR (loF I0) F I2 J2 v).2 a = J2 a
  | 0, _, a, _ => rfl
  | v + 1, hv, a, ha => by
    have ih := sqR_far2 hT v (by omega) a ha
    obtain ⟨s, hs⟩ := hT v (by omega)
    have eR : sqR (loF I0) F I2 J2 (v + 1) = s := by
      conv => lhs; unfold sqR
      rw [hs]; rfl
    rw [eR]
    obtain ⟨r1, -⟩ := run_frame (by omega : v < 4) F _ _ s hs
    exact (funext fun q => r1 a q (by omega) (by omega) (by omega)).trans ih
theorem mdA_far2 {I0 I2 : SI} {J2 : SJ} : ∀ k, k ≤ 4 → ∀ a, 108 ≤ a → mdA I2 (loF I0) J2 k a = J2 a
  | 0, _, _, _ => rfl
  | k + 1, hk, a, ha => (funext fun q => (fR_md (I0 := I0) (I2 := I2) (J := mdA I2 (loF I0) J2 k) (by omega : k < 4) 9 (Nat.le_refl _)) a q (by omega) (by omega) (by omega)).trans (mdA_far2 k (by omega) a ha)
/-- a call that mends: the class's contract and the reference's have what they ask for, and all holds again -/
theorem call_mend2 {j : Nat} {I : SI} {J : SJ} {X : SX} (h : Inv j I J X) (hj : j < 513) {C : SI} (c1 : ∀ a, a < 3 ∨ 8 ≤ a → C a = I a) (hW : W99 C) {I2 : SI}
    (r1 : ∀ a, a ≠ 102 → a ≠ 103 → a ≠ 104 → I2 a = (sqC C 10000000 (tellI C) J 4).1 a) (r2 : ∀ y, y ≠ 14 → I2 102 y = (sqC C 10000000 (tellI C) J 4).1 102 y) (hR : RelN C I2) {J2 : SJ} (eJ2 : ∀ a, a < 108 → J2 a = (sqC C 10000000 (tellI C) J 4).2 a) :
    MendOK (cnF C) (nbF C) (fun w => (sqC C 10000000 (tellI C) J w).1) (fun w => (sqC C 10000000 (tellI C) J w).2) ∧
    SettOK (loF C) (fun v => (sqR (loF C) 10000000 I2 (mdA I2 (loF C) J2 4) v).1) (fun v => (sqR (loF C) 10000000 I2 (mdA I2 (loF C) J2 4) v).2) ∧
    Inv (j + 1) (sqR (loF C) 10000000 I2 (mdA I2 (loF C) J2 4) 4).1 (sqR (loF C) 10000000 I2 (mdA I2 (loF C) J2 4) 4).2 X ∧
    (∀ a, 108 ≤ a → (sqR (loF C) 10000000 I2 (mdA I2 (loF C) J2 4) 4).2 a = J2 a) ∧ ∀ a b, ¬ (a = 102 ∧ b = 4) → (sqR (loF C) 10000000 I2 (mdA I2 (loF C) J2 4) 4).1 a b = I2 a b := by
  obtain ⟨hRI, hWI, hFI, hOI, hdI, hbI, hdb, hrd, hJ, hpc, hDr, hX, hsb⟩ := h
  have hOC : offZ C := offZ_cg (fun a q1 q2 => c1 a (Or.inr (by omega))) hOI
  obtain ⟨hF, hO⟩ := tell_full (I0 := C) (W99.pos hW) hOC
  -- a world for the reference that doesn't hang on the class's run: so as to have the class's frame
  obtain ⟨I3, e3⟩ : ∃ I3 : SI, I3 = fun a => if a = 103 then fun q => C (3 + q / 5) (q % 5) else if a = 104 then C 7 else I a := ⟨_, rfl⟩
  have a3 : ∀ a, a ≠ 103 → a ≠ 104 → I3 a = I a := fun a q1 q2 => by rw [e3]; dsimp only; rw [if_neg q1, if_neg q2]
  have hR3 : RelN C I3 := ⟨fun r b hr hb => by
    rw [e3]
    dsimp only
    rw [if_pos rfl, show (5 * r + b) / 5 = r from by omega, show (5 * r + b) % 5 = b from by omega], fun b hb => by
    rw [e3]
    dsimp only
    rw [if_neg (by decide), if_pos rfl]⟩
  have hdb3 : dbOK I3 := by unfold dbOK; rw [a3 102 (by decide) (by decide)]; exact hdb
  obtain ⟨hT3, -⟩ := mends_dr hW hR3 hdb3 hj (DrA_of (by rw [a3 102 (by decide) (by decide)]) (by rw [a3 102 (by decide) (by decide)]) (fun _ _ _ => rfl) hDr)
  have hd3 : tellI C 0 5 = I3 102 2 := by rw [tellI_f (by omega), c1 0 (by omega), a3 102 (by decide) (by decide)]; exact hdI
  have hb3 : tellI C 0 6 = I3 102 3 := by rw [tellI_f (by omega), c1 0 (by omega), a3 102 (by decide) (by decide)]; exact hbI
  obtain ⟨⟨fI, -, -, -⟩, -, -, -⟩ := rel_mends hW hF hR3 hd3 hb3 hJ hT3 4 (Nat.le_refl _)
  have fJ := sqC_far hW hF hR3 hd3 hb3 hJ hT3 4 (Nat.le_refl _)
  -- the class's end
  have gI : ∀ x y, (x < 31 ∨ 35 ≤ x ∨ y ≠ 5) → (sqC C 10000000 (tellI C) J 4).1 x y = tellI C x y := fI
  have gF : ∀ x y, 30 ≤ x → (35 ≤ x ∨ y ≠ 5) → x < 103 ∨ 104 < x → (sqC C 10000000 (tellI C) J 4).1 x y = I x y := fun x y q1 q2 q3 => by
    rw [gI x y (by omega), tellI_f (by omega), c1 x (by omega)]
  have pd : I2 102 2 = I 102 2 := (r2 2 (by decide)).trans (gF 102 2 (by omega) (by omega) (by omega))
  have pb : I2 102 3 = I 102 3 := (r2 3 (by decide)).trans (gF 102 3 (by omega) (by omega) (by omega))
  have hd2 : tellI C 0 5 = I2 102 2 := by rw [tellI_f (by omega), c1 0 (by omega), pd]; exact hdI
  have hb2 : tellI C 0 6 = I2 102 3 := by rw [tellI_f (by omega), c1 0 (by omega), pb]; exact hbI
  have hdb2 : dbOK I2 := by unfold dbOK; rw [pd, pb]; exact hdb
  have fJ2 : ∀ a, 105 ≤ a → a < 108 → J2 a = J a := fun a q q2 => (eJ2 a q2).trans (fJ a (by omega))
  have hJ2 : ∀ w, w < 4 → RelW w J J2 := fun w hw => RelW_of fJ2 (hJ w hw)
  obtain ⟨hT, hDr2⟩ := mends_dr hW hR hdb2 hj (DrA_of pd pb fJ2 hDr)
  have hrd2 : ∀ w, w < 4 → tellI C (31 + w) 1 = nI w := fun w hw => by rw [tellI_f (by omega), c1 _ (by omega)]; exact hrd w hw
  obtain ⟨mk1, mk2⟩ := mend_ok (F := 10000000) (Nat.le_refl _) hW hF hR hd2 hb2 hrd2 hJ2 hT
  obtain ⟨⟨-, s2, ⟨t, s3, s4⟩, s5⟩, -, -, -⟩ := rel_mends hW hF hR hd2 hb2 hJ2 hT 4 (Nat.le_refl _)
  have tJ : ∀ a, a < 105 → (sqR (loF C) 10000000 I2 (mdA I2 (loF C) J2 4) 4).2 a = (sqC C 10000000 (tellI C) J 4).2 a := fun a ha => ((sqR_far hT 4 (Nat.le_refl _) a ha).trans (mdA_far 4 (Nat.le_refl _) a ha)).trans (eJ2 a (by omega))
  have tJ2 : ∀ a, 108 ≤ a → (sqR (loF C) 10000000 I2 (mdA I2 (loF C) J2 4) 4).2 a = J2 a := fun a ha => (sqR_far2 hT 4 (Nat.le_refl _) a ha).trans (mdA_far2 4 (Nat.le_refl _) a ha)
  refine ⟨mk1, mk2, ?_, tJ2, s2⟩
  clear tJ2
  generalize sqR (loF C) 10000000 I2 (mdA I2 (loF C) J2 4) 4 = T at *
  have tI : ∀ x y, x ≠ 102 → x ≠ 103 → x ≠ 104 → T.1 x y = (sqC C 10000000 (tellI C) J 4).1 x y := fun x y q1 q2 q3 => by rw [s2 x y (by omega), r1 x q1 q2 q3]
  have tC : ∀ a, 3 ≤ a → a < 8 → T.1 a = C a := fun a q1 q2 => funext fun y => by rw [tI a y (by omega) (by omega) (by omega), gI a y (by omega), tellI_f (by omega)]
  have tN : ∀ a, 9 ≤ a → a < 30 → T.1 a = tellI C a := fun a q1 q2 => funext fun y => by rw [tI a y (by omega) (by omega) (by omega), gI a y (by omega)]
  have td : T.1 102 2 = I 102 2 := (s2 102 2 (by omega)).trans pd
  have tb : T.1 102 3 = I 102 3 := (s2 102 3 (by omega)).trans pb
  refine ⟨⟨fun r b hr hb => ?_, fun b hb => ?_⟩, w99_far hW (fun a b q1 q2 => by rw [tC a q1 (by omega)]), full_cg tC tN hF, offZ_cg (fun a q1 q2 => tN a q1 (by omega)) hO, ?_, ?_, ?_, fun w hw => ?_, fun w hw => RelW_to hw (fun a ha => tJ a (by omega)) (s5 w hw), ?_, DrA_of (s2 102 2 (by omega)) (s2 102 3 (by omega)) (fun _ _ _ => rfl) hDr2, hX, ?_⟩
  · rw [tC (3 + r) (by omega) (by omega), s2 103 _ (by omega)]; exact hR.1 r b hr hb
  · rw [tC 7 (by omega) (by omega), s2 104 _ (by omega)]; exact hR.2 b hb
  · rw [tI 0 5 (by decide) (by decide) (by decide), gI 0 5 (by omega), tellI_f (by omega), c1 0 (by omega), td]; exact hdI
  · rw [tI 0 6 (by decide) (by decide) (by decide), gI 0 6 (by omega), tellI_f (by omega), c1 0 (by omega), tb]; exact hbI
  · unfold dbOK; rw [td, tb]; exact hdb
  · rw [tI _ 1 (by omega) (by omega) (by omega), gF _ 1 (by omega) (by omega) (by omega)]; exact hrd w hw
  · have e1 : pcS T.1 4 = pcS (sqC C 10000000 (tellI C) J 4).1 4 := pcS_cg (fun w hw => tI _ 5 (by omega) (by omega) (by omega)) 4 (Nat.le_refl _)
    have e2 : pcS (tellI C) 4 = pcS I 4 := pcS_cg (fun w hw => by rw [tellI_f (by omega), c1 _ (by omega)]) 4 (Nat.le_refl _)
    rw [e1, s3, s4, e2, hpc, r2 4 (by decide), gF 102 4 (by omega) (by omega) (by omega)]
  · obtain ⟨b1, n, b2, b3⟩ := hsb
    refine ⟨?_, n, b2, ?_⟩
    · rw [tI 100 1 (by decide) (by decide) (by decide), gF 100 1 (by omega) (by omega) (by omega)]; exact b1
    · rw [tI 100 3 (by decide) (by decide) (by decide), gF 100 3 (by omega) (by omega) (by omega)]; exact b3
theorem begM_far2 {J2 : SJ} {a : Nat} (ha : 108 ≤ a) : beginM J2 a = J2 a := by
  have b1 : ∀ k, bm1 J2 k a = J2 a := by
    intro k
    induction k with
    | zero => rfl
    | succ k ih => unfold bm1; rw [st2_k _ _ (by omega)]; exact ih
  have b2 : ∀ (Y : SJ) k, bm2 Y k a = Y a := by
    intro Y k
    induction k with
    | zero => rfl
    | succ k ih => unfold bm2; rw [st2_k _ _ (by omega), st2_k _ _ (by omega)]; exact ih
  unfold beginM
  rw [b2, b1]
/-- bars are 0, 1 or 2 -/
def B3 (I : SI) : Prop := ∀ b, b < 5 → ∃ h, h < 3 ∧ I 7 b = nI h
def Inv2 (j : Nat) (I : SI) (J : SJ) (X : SX) : Prop := Inv j I J X ∧ B3 I
theorem NetFull_cg {I I' : SI} (e : ∀ a, 3 ≤ a → a < 30 → I' a = I a) (h : NetFull I I) : NetFull I' I' := full_cg (fun a q1 q2 => e a q1 (by omega)) (fun a q1 q2 => e a (by omega) q2) h
/-- what a call leaves that tells neither the net nor the walks -/
theorem Inv2_cg {j : Nat} {I I' : SI} {J J' : SJ} {X X' : SX} (h : Inv2 j I J X) (eI : ∀ a b, ¬ (a = 102 ∧ b = 14) → ¬ (83 ≤ a ∧ a ≤ 86) → a < 100 ∨ (102 ≤ a ∧ a < 111) → I' a b = I a b) (eS : sbOK I') (eJ : ∀ a, (a < 83 ∨ (105 ≤ a ∧ a < 108)) → J' a = J a) (eX : ∀ i, i < 9 → X' 99 i = X' 110 i) : Inv2 j I' J' X' := by
  obtain ⟨⟨hRI, hWI, hFI, hOI, hdI, hbI, hdb, hrd, hJ, hpc, hDr, hX, hsb⟩, hB⟩ := h
  have eA : ∀ a, a < 83 → I' a = I a := fun a q => funext fun b => eI a b (by omega) (by omega) (by omega)
  have e2 : I' 102 2 = I 102 2 := eI 102 2 (by omega) (by omega) (by omega)
  have e3 : I' 102 3 = I 102 3 := eI 102 3 (by omega) (by omega) (by omega)
  refine ⟨⟨⟨fun r b hr hb => ?_, fun b hb => ?_⟩, w99_far hWI (fun a b q1 q2 => by rw [eA a (by omega)]), NetFull_cg (fun a q1 q2 => eA a (by omega)) hFI, offZ_cg (fun a q1 q2 => eA a (by omega)) hOI, ?_, ?_, ?_, fun w hw => ?_, fun w hw => RelW_of (fun a q1 q2 => eJ a (Or.inr ⟨q1, q2⟩)) (RelW_to hw (fun a q => eJ a (Or.inl q)) (hJ w hw)), ?_, DrA_of e2 e3 (fun a q1 q2 => eJ a (Or.inr ⟨q1, q2⟩)) hDr, eX, eS⟩, fun b hb => ?_⟩
  · rw [eA (3 + r) (by omega), eI 103 _ (by omega) (by omega) (by omega)]; exact hRI.1 r b hr hb
  · rw [eA 7 (by omega), eI 104 _ (by omega) (by omega) (by omega)]; exact hRI.2 b hb
  · rw [eA 0 (by omega), e2]; exact hdI
  · rw [eA 0 (by omega), e3]; exact hbI
  · unfold dbOK; rw [e2, e3]; exact hdb
  · rw [eA _ (by omega)]; exact hrd w hw
  · rw [pcS_cg (fun w hw => by rw [eA _ (by omega)]) 4 (Nat.le_refl _), eI 102 4 (by omega) (by omega) (by omega)]; exact hpc
  · rw [eA 7 (by omega)]; exact hB b hb
theorem Inv2.set14 {j : Nat} {I : SI} {J : SJ} {X : SX} {v : Int32} (h : Inv2 j I J X) : Inv2 j (st2 I 102 14 v) J X := Inv2_cg h (fun a b q _ _ => st2_n _ _ q) (by
  obtain ⟨a, n, b, d⟩ := h.1.2.2.2.2.2.2.2.2.2.2.2.2
  exact ⟨by rw [st2_n _ _ (by omega)]; exact a, n, b, by rw [st2_n _ _ (by omega)]; exact d⟩) (fun _ _ => rfl) h.1.2.2.2.2.2.2.2.2.2.2.2.1
theorem Inv2.sb {j : Nat} {I : SI} {J : SJ} {X : SX} (h : Inv2 j I J X) : sbOK I := h.1.2.2.2.2.2.2.2.2.2.2.2.2
theorem Inv2.x {j : Nat} {I : SI} {J : SJ} {X : SX} (h : Inv2 j I J X) : ∀ i, i < 9 → X 99 i = X 110 i := h.1.2.2.2.2.2.2.2.2.2.2.2.1
theorem Inv2.out {j : Nat} {I : SI} {J : SJ} {X : SX} {v : Int64} (h : Inv2 j I J X) : Inv2 j I (st2 J 114 0 v) X := Inv2_cg h (fun _ _ _ _ _ => rfl) h.sb (fun a q => st2_k _ _ (by omega)) h.x
theorem sb_cg {I I' : SI} (e : I' 100 = I 100) (h : sbOK I) : sbOK I' := by
  obtain ⟨a, n, b, d⟩ := h
  exact ⟨by rw [e]; exact a, n, b, by rw [e]; exact d⟩
theorem start_ok2 : Inv2 0 (RS 4).1 (RS 4).2 X0 := by
  obtain ⟨h1, -, -, -, h2, h3⟩ := start_all
  exact ⟨h2, fun b hb => ⟨0, by decide, by rw [h3 7 b (by omega), h1 7 b (by omega), i0_z (by omega)]; rfl⟩⟩
theorem sqR_beginJ {I I2 : SI} {J2 : SJ} (hW : W99 I) (hR : RelN I I2) (hdb : dbOK I2) : ∀ k, 108 ≤ k → (sqR (loF I) 10000000 I2 (beginM J2) 4).2 k = J2 k := fun k hk => by
  obtain ⟨hT, -⟩ := begins_dr (J2 := J2) hW hR hdb
  exact (sqR_far2 hT 4 (Nat.le_refl _) k hk).trans (begM_far2 hk)
theorem rs_J : ∀ k, 108 ≤ k → (RS 4).2 k = J0 k := fun k hk => by
  have hR : RelN I0 CS.1 := ⟨fun r b hr hb => by rw [cs_I 103 _ (by omega), i0_z (by omega), i0_z (by omega)], fun b hb => by rw [cs_I 104 _ (by omega), i0_z (by omega), i0_z (by omega)]⟩
  have hdb : dbOK CS.1 := by
    unfold dbOK
    rw [cs_I 102 2 (by omega), cs_I 102 3 (by omega)]
    exact db0
  have h := sqR_beginJ (J2 := CS.2) w990 hR hdb k hk
  unfold RS
  exact h.trans (cs_J k (by omega))
/-- the class's run in a mending call leaves all but its counts -/
theorem sqC_frI {j : Nat} {I : SI} {J : SJ} {X : SX} (h : Inv j I J X) (hj : j < 513) {C : SI} (c1 : ∀ a, a < 3 ∨ 8 ≤ a → C a = I a) (hW : W99 C) : (∀ x y, (x < 31 ∨ 35 ≤ x ∨ y ≠ 5) → (sqC C 10000000 (tellI C) J 4).1 x y = tellI C x y) ∧ ∀ a, 83 ≤ a → (sqC C 10000000 (tellI C) J 4).2 a = J a := by
  obtain ⟨hRI, hWI, hFI, hOI, hdI, hbI, hdb, hrd, hJ, hpc, hDr, hX, hsb⟩ := h
  have hOC : offZ C := offZ_cg (fun a q1 q2 => c1 a (Or.inr (by omega))) hOI
  obtain ⟨hF, hO⟩ := tell_full (I0 := C) (W99.pos hW) hOC
  -- a world for the reference that doesn't hang on the class's run: so as to have the class's frame
  obtain ⟨I3, e3⟩ : ∃ I3 : SI, I3 = fun a => if a = 103 then fun q => C (3 + q / 5) (q % 5) else if a = 104 then C 7 else I a := ⟨_, rfl⟩
  have a3 : ∀ a, a ≠ 103 → a ≠ 104 → I3 a = I a := fun a q1 q2 => by rw [e3]; dsimp only; rw [if_neg q1, if_neg q2]
  have hR3 : RelN C I3 := ⟨fun r b hr hb => by
    rw [e3]
    dsimp only
    rw [if_pos rfl, show (5 * r + b) / 5 = r from by omega, show (5 * r + b) % 5 = b from by omega], fun b hb => by
    rw [e3]
    dsimp only
    rw [if_neg (by decide), if_pos rfl]⟩
  have hdb3 : dbOK I3 := by unfold dbOK; rw [a3 102 (by decide) (by decide)]; exact hdb
  obtain ⟨hT3, -⟩ := mends_dr hW hR3 hdb3 hj (DrA_of (by rw [a3 102 (by decide) (by decide)]) (by rw [a3 102 (by decide) (by decide)]) (fun _ _ _ => rfl) hDr)
  have hd3 : tellI C 0 5 = I3 102 2 := by rw [tellI_f (by omega), c1 0 (by omega), a3 102 (by decide) (by decide)]; exact hdI
  have hb3 : tellI C 0 6 = I3 102 3 := by rw [tellI_f (by omega), c1 0 (by omega), a3 102 (by decide) (by decide)]; exact hbI
  obtain ⟨⟨fI, -, -, -⟩, -, -, -⟩ := rel_mends hW hF hR3 hd3 hb3 hJ hT3 4 (Nat.le_refl _)
  have fJ := sqC_far hW hF hR3 hd3 hb3 hJ hT3 4 (Nat.le_refl _)
  exact ⟨fI, fJ⟩
def MCw (C : SI) (J : SJ) (w : Nat) : SI × SJ := sqC C 10000000 (tellI C) J w
def MRw (C I2 : SI) (J2 : SJ) (v : Nat) : SI × SJ := sqR (loF C) 10000000 I2 (mdA I2 (loF C) J2 4) v
theorem MCw_0 {C : SI} {J : SJ} : MCw C J 0 = (tellI C, J) := by unfold MCw sqC; rfl
theorem MRw_0 {C I2 : SI} {J2 : SJ} : MRw C I2 J2 0 = (I2, mdA I2 (loF C) J2 4) := by unfold MRw sqR; rfl
/-- a mending call, all of it: the class's, then the reference's own telling -/
theorem mend_pack {j : Nat} {I : SI} {J : SJ} {X : SX} (hv : Inv2 j I J X) (hj : j < 513) {C : SI} (c1 : ∀ a, a < 3 ∨ 8 ≤ a → C a = I a) (hW : W99 C) (hB : B3 C) {I2 : SI} (g : RelN C I2) (g1 : ∀ a, a ≠ 102 → a ≠ 103 → a ≠ 104 → I2 a = (MCw C J 4).1 a) (g2 : ∀ y, y ≠ 14 → I2 102 y = (MCw C J 4).1 102 y) (g14 : I2 102 14 = 0) {J2 : SJ} (eJ2 : ∀ a, a < 108 → J2 a = (MCw C J 4).2 a) :
    MendOK (cnF C) (nbF C) (fun w => (MCw C J w).1) (fun w => (MCw C J w).2) ∧ SettOK (loF C) (fun v => (MRw C I2 J2 v).1) (fun v => (MRw C I2 J2 v).2) ∧ Inv2 (j + 1) (MRw C I2 J2 4).1 (MRw C I2 J2 4).2 X ∧ (MRw C I2 J2 4).1 102 14 = 0 ∧ (∀ a, 108 ≤ a → (MRw C I2 J2 4).2 a = J2 a) ∧ ∀ a b, ¬ (a = 102 ∧ b = 4) → (MRw C I2 J2 4).1 a b = I2 a b := by
  obtain ⟨fI, -⟩ := sqC_frI hv.1 hj c1 hW
  unfold MCw at g1 g2 eJ2
  have hk := call_mend2 (C := C) (I2 := I2) (J2 := J2) hv.1 hj c1 hW g1 g2 g eJ2
  unfold MCw MRw
  obtain ⟨a1, a2, a3, a4, a5⟩ := hk
  refine ⟨a1, a2, ⟨a3, fun b hb => ?_⟩, ?_, a4, a5⟩
  · obtain ⟨h, q1, q2⟩ := hB b hb
    exact ⟨h, q1, by rw [a5 7 b (by omega), g1 7 (by omega) (by omega) (by omega), fI 7 b (by omega), tellI_f (by omega)]; exact q2⟩
  · rw [a5 102 14 (by omega)]; exact g14
/-- and the reference's loans behind the class's own call are as ahead of it -/
theorem relN_mid {j : Nat} {I : SI} {J : SJ} {X : SX} (hv : Inv2 j I J X) (hj : j < 513) {C : SI} (c1 : ∀ a, a < 3 ∨ 8 ≤ a → C a = I a) (hW : W99 C) : RelN I (MCw C J 4).1 ∧ (∀ a, 35 ≤ a → (MCw C J 4).1 a = I a) := by
  obtain ⟨fI, -⟩ := sqC_frI hv.1 hj c1 hW
  have e : ∀ a, 35 ≤ a → (MCw C J 4).1 a = I a := fun a q => funext fun y => by unfold MCw; rw [fI a y (by omega), tellI_f (by omega), c1 a (by omega)]
  exact ⟨⟨fun r b hr hb => by rw [e 103 (by omega)]; exact hv.1.1.1 r b hr hb, fun b hb => by rw [e 104 (by omega)]; exact hv.1.1.2 b hb⟩, e⟩
theorem inF_01 (x a b : Int32) : inF x a b = 0 ∨ inF x a b = 1 := by
  unfold inF
  split
  · exact Or.inl rfl
  · split
    · exact Or.inl rfl
    · exact Or.inr rfl
theorem inF_nat {x : Int32} {n : Nat} (hn : n < 2147483648) (h : inF x 0 (nI n) = 1) : ∃ r, r < n + 1 ∧ x = nI r := by
  unfold inF at h
  by_cases h1 : x < 0
  · rw [if_pos h1] at h; exact absurd h (by decide)
  · rw [if_neg h1] at h
    by_cases h2 : nI n < x
    · rw [if_pos h2] at h; exact absurd h (by decide)
    · rw [Int32.lt_iff_toInt_lt] at h1 h2
      rw [nI_toInt (by omega)] at h2
      have h0 : (0 : Int32).toInt = 0 := rfl
      refine ⟨x.toInt.toNat, by omega, ?_⟩
      apply Int32.toInt_inj.mp
      rw [nI_toInt (by omega)]
      omega
theorem nat_of {x : Int32} (h : ¬ x < 0) : ∃ r, r < 2147483648 ∧ x = nI r := by
  rw [Int32.lt_iff_toInt_lt] at h
  have h0 : (0 : Int32).toInt = 0 := rfl
  have h2 := Int32.toInt_lt x
  refine ⟨x.toInt.toNat, by omega, ?_⟩
  apply Int32.toInt_inj.mp
  rw [nI_toInt (by omega)]
  omega
theorem isP_a {r k : Int32} (h : inF r 0 3 = 0) : isPairF r k = 0 := if_pos h
theorem isP_b {r k : Int32} (h : inF r 0 3 = 1) (h1 : inF k 0 4 = 0) : isPairF r k = 0 := by unfold isPairF; rw [if_neg (by rw [h]; decide), if_pos h1]
theorem isP_c {r k : Int32} (h : inF r 0 3 = 1) (h1 : inF k 0 4 = 1) : isPairF r k = 1 := by unfold isPairF; rw [if_neg (by rw [h]; decide), if_neg (by rw [h1]; decide)]
theorem isN_a {r k : Int32} (h : inF r 0 3 = 0) : isNodeF r k = 0 := if_pos h
theorem isN_b {r k : Int32} (h : inF r 0 3 = 1) (h1 : inF k 0 8 = 0) : isNodeF r k = 0 := by unfold isNodeF; rw [if_neg (by rw [h]; decide), if_pos h1]
theorem isN_c {r k : Int32} (h : inF r 0 3 = 1) (h1 : inF k 0 8 = 1) : isNodeF r k = 1 := by unfold isNodeF; rw [if_neg (by rw [h]; decide), if_neg (by rw [h1]; decide)]
