/-! each call of the law, and what holds behind it -/
theorem met_cg {l : Launch} {y : MethodName} {ws : List Cond} {rm : Room} {P : Array Value → State → Prop} {mc ms sz : Nat} {D : va_G} {cA : Nat → ClassId} {ad : Nat → Nat} {v : Int32} {I1 I9 : SI} {J1 J9 : SJ} {X : SX} (e : ∀ a, a < 102 → I9 a = I1 a ∧ J9 a = J1 a) (h : Met l y ws rm P (qI 102 D cA ad sz v I1 J1 X) mc ms (fr 102 ad sz)) : Met l y ws rm P (qI 102 D cA ad sz v I9 J9 X) mc ms (fr 102 ad sz) := by
  unfold qI
  rw [wPost_cg (I' := I9) (J' := J9) (X' := X) (I := I1) (J := J1) (X := X) (fun a q => ⟨(e a q).1, (e a q).2, rfl⟩)]
  exact h
theorem nn1 {v : Int32} (h : 0 ≤ v.toInt) : v ≠ -1 ∧ ¬ v < -1 := by
  have e : (-1 : Int32).toInt = -1 := rfl
  refine ⟨fun z => by rw [z, e] at h; omega, fun z => ?_⟩
  rw [Int32.lt_iff_toInt_lt, e] at z
  omega
theorem half_bd {x : Int32} (h : 0 ≤ x.toInt ∧ x.toInt ≤ 99) : 0 ≤ (x / 2).toInt ∧ (x / 2).toInt ≤ 99 := by
  have e : (x / 2).toInt = x.toInt.tdiv 2 := Int32.toInt_div_of_ne_right x 2 (by decide)
  rw [e, Int.tdiv_eq_ediv_of_nonneg h.1]
  omega
theorem hvIn_bd {r : Nat} {s : SI × Int32} (h : W99 s.1) (hr : r < 4) : ∀ b, b ≤ 5 → W99 (hvIn r s b).1
  | 0, _ => h
  | b + 1, hb => by
    have ih := hvIn_bd h hr b (by omega)
    unfold hvIn
    exact w99_loan ih (half_bd (ih r b hr (by omega)))
theorem hvOut_bd {I : SI} (h : W99 I) : ∀ r, r ≤ 4 → W99 (hvOut I r).1
  | 0, _ => h
  | r + 1, hr => by
    unfold hvOut
    exact hvIn_bd (hvOut_bd h r (by omega)) (by omega) 5 (Nat.le_refl _)
theorem hvIn_n {r n : Nat} {s : SI × Int32} (h : s.2 = nI n) : ∀ b, ∃ m, m ≤ n + b ∧ (hvIn r s b).2 = nI m
  | 0 => ⟨n, Nat.le_refl _, h⟩
  | b + 1 => by
    obtain ⟨m, h1, h2⟩ := hvIn_n h b
    unfold hvIn
    dsimp only
    rw [h2]
    split
    · exact ⟨m + 1, by omega, nI_1 m⟩
    · exact ⟨m, by omega, by rw [Int32.add_zero]⟩
theorem hvOut_n {I : SI} : ∀ r, ∃ m, m ≤ 5 * r ∧ (hvOut I r).2 = nI m
  | 0 => ⟨0, Nat.le_refl _, rfl⟩
  | r + 1 => by
    obtain ⟨m, h1, h2⟩ := hvOut_n (I := I) r
    obtain ⟨m2, h3, h4⟩ := hvIn_n (r := r) h2 5
    unfold hvOut
    exact ⟨m2, by omega, h4⟩
theorem inF_bd {x a b : Int32} (h : inF x a b = 1) : a.toInt ≤ x.toInt ∧ x.toInt ≤ b.toInt := by
  unfold inF at h
  by_cases h1 : x < a
  · rw [if_pos h1] at h; exact absurd h (by decide)
  · rw [if_neg h1] at h
    by_cases h2 : b < x
    · rw [if_pos h2] at h; exact absurd h (by decide)
    · rw [Int32.lt_iff_toInt_lt] at h1 h2
      omega

set_option maxHeartbeats 800000 in
set_option maxRecDepth 100000 in
theorem dk_loan (l : Launch) (hst : l.stackTraces = false) (D : va_G) (cA : Nat → ClassId) (ad K V : Nat → Nat) (tO tT : Nat) (hi : inj 102 ad) {j : Nat} (hj : j < 25) {I : SI} {J : SJ} {X : SX} (hv : Inv3 j I J X) (p0 p1 p2 : Int32) : ∃ (v : Int32) (I1 : SI) (J1 : SJ) (j' : Nat), j' ≤ j + 1 ∧ Inv3 j' I1 J1 X ∧ I1 0 6 = I 0 6 ∧ v ≠ -1 ∧ (v < -1 → I1 = I ∧ J1 = J) ∧
    ∀ sz, Met l yL_does wsL_does ({ frames := 60, cells := 1, slots := 6, locals := 3000 }) (va_Pc [.ref (ad 0), .int 0, .int p0, .int p1, .int p2] (wPreA D cA ad K V tO tT I J X sz)) (qI 102 D cA ad sz v I1 J1 X) 1 6 (fr 102 ad sz) := by
  rcases inF_01 p0 0 3 with h0 | h0
  · exact ⟨-2, I, J, j, Nat.le_succ j, hv, rfl, by decide, fun _ => ⟨rfl, rfl⟩, fun sz => h_loan_eI l D cA ad K V tO tT hi I J X sz p0 p1 p2 (f9 := 7) (o9 := 102) (by decide) (by decide) (x_X4_loan_1 l hst 102 D cA ad hi (Nat.le_refl _) I J X sz p0 p1 p2 h0)⟩
  obtain ⟨r, hr, rfl⟩ := inF_nat (n := 3) (by decide) h0
  rcases inF_01 p1 0 4 with h1 | h1
  · exact ⟨-2, I, J, j, Nat.le_succ j, hv, rfl, by decide, fun _ => ⟨rfl, rfl⟩, fun sz => h_loan_eI l D cA ad K V tO tT hi I J X sz (nI r) p1 p2 (f9 := 7) (o9 := 102) (by decide) (by decide) (x_X4_loan_2 l hst 102 D cA ad hi (Nat.le_refl _) I J X sz r hr p1 p2 h1)⟩
  obtain ⟨k, hk, rfl⟩ := inF_nat (n := 4) (by decide) h1
  rcases inF_01 p2 1 99 with h2 | h2
  · exact ⟨-3, I, J, j, Nat.le_succ j, hv, rfl, by decide, fun _ => ⟨rfl, rfl⟩, fun sz => h_loan_eA l D cA ad K V tO tT hi I J X sz (nI r) (nI k) p2 (f9 := 7) (o9 := 104) (by decide) (by decide) (x_X4_loan_3 l hst 102 D cA ad hi (Nat.le_refl _) I J X sz r k hr hk p2 h2)⟩
  have hW : W99 I := hv.1.1.2.1
  obtain ⟨C, eC⟩ : ∃ C : SI, C = st2 I (3 + r) k (minW (I (3 + r) k + p2)) := ⟨_, rfl⟩
  have c1 : ∀ a, a < 3 ∨ 8 ≤ a → C a = I a := fun a q => by rw [eC]; exact st2_k _ _ (by omega)
  have hcm := (cap_min (I2 := I) hv.1.1.1 hW hr hk h2).2
  have hWC : W99 C := by rw [eC]; exact w99_loan hW hcm
  have hBC : B3 C := fun b hb => by rw [eC, st2_n _ _ (by omega)]; exact hv.1.2 b hb
  obtain ⟨v, ev⟩ : ∃ v : Int32, v = minW (I (3 + r) k + p2) := ⟨_, rfl⟩
  have hv0 : 0 ≤ v.toInt := by rw [ev]; exact hcm.1
  obtain ⟨I9, J9, eq9, mk, iv, e06⟩ := mend3 hv (by omega) c1 hWC hBC
  refine ⟨v, I9, J9, j + 1, Nat.le_refl _, iv, e06, (nn1 hv0).1, fun z => absurd z (nn1 hv0).2, fun sz => met_cg eq9 ?_⟩
  exact h_loan_ok l D cA ad K V tO tT hi I J X sz (nI r) (nI k) p2 (f9 := 5) (o9 := 129) (by decide) (by decide) v (MCw C J 4).1 (MCw C J 4).2 X (by rw [ev]; exact c_X4_loan_ok l 102 D cA ad hi (Nat.le_refl _) I J X sz r k hr hk p2 h2 (cnF C) (nbF C) (fun w => (MCw C J w).1) (fun w => (MCw C J w).2) (by rw [MCw_0, ← eC]) (by rw [MCw_0]) mk)

set_option maxHeartbeats 800000 in
set_option maxRecDepth 100000 in
theorem dk_strike (l : Launch) (hst : l.stackTraces = false) (D : va_G) (cA : Nat → ClassId) (ad K V : Nat → Nat) (tO tT : Nat) (hi : inj 102 ad) {j : Nat} (hj : j < 25) {I : SI} {J : SJ} {X : SX} (hv : Inv3 j I J X) (p0 p1 p2 : Int32) : ∃ (v : Int32) (I1 : SI) (J1 : SJ) (j' : Nat), j' ≤ j + 1 ∧ Inv3 j' I1 J1 X ∧ I1 0 6 = I 0 6 ∧ v ≠ -1 ∧ (v < -1 → I1 = I ∧ J1 = J) ∧
    ∀ sz, Met l yL_does wsL_does ({ frames := 60, cells := 1, slots := 6, locals := 3000 }) (va_Pc [.ref (ad 0), .int 1, .int p0, .int p1, .int p2] (wPreA D cA ad K V tO tT I J X sz)) (qI 102 D cA ad sz v I1 J1 X) 1 6 (fr 102 ad sz) := by
  rcases inF_01 p0 0 3 with h0 | h0
  · exact ⟨-2, I, J, j, Nat.le_succ j, hv, rfl, by decide, fun _ => ⟨rfl, rfl⟩, fun sz => h_strike_eI l D cA ad K V tO tT hi I J X sz p0 p1 p2 (f9 := 7) (o9 := 102) (by decide) (by decide) (x_X4_strike_1 l hst 102 D cA ad hi (Nat.le_refl _) I J X sz p0 p1 h0)⟩
  obtain ⟨r, hr, rfl⟩ := inF_nat (n := 3) (by decide) h0
  rcases inF_01 p1 0 4 with h1 | h1
  · exact ⟨-2, I, J, j, Nat.le_succ j, hv, rfl, by decide, fun _ => ⟨rfl, rfl⟩, fun sz => h_strike_eI l D cA ad K V tO tT hi I J X sz (nI r) p1 p2 (f9 := 7) (o9 := 102) (by decide) (by decide) (x_X4_strike_2 l hst 102 D cA ad hi (Nat.le_refl _) I J X sz r hr p1 h1)⟩
  obtain ⟨k, hk, rfl⟩ := inF_nat (n := 4) (by decide) h1
  by_cases h2 : I (3 + r) k = 0
  · exact ⟨-4, I, J, j, Nat.le_succ j, hv, rfl, by decide, fun _ => ⟨rfl, rfl⟩, fun sz => h_strike_eS l D cA ad K V tO tT hi I J X sz (nI r) (nI k) p2 (f9 := 6) (o9 := 82) (by decide) (by decide) (x_X4_strike_3 l hst 102 D cA ad hi (Nat.le_refl _) I J X sz r k hr hk h2)⟩
  have hW : W99 I := hv.1.1.2.1
  obtain ⟨C, eC⟩ : ∃ C : SI, C = st2 I (3 + r) k 0 := ⟨_, rfl⟩
  have c1 : ∀ a, a < 3 ∨ 8 ≤ a → C a = I a := fun a q => by rw [eC]; exact st2_k _ _ (by omega)
  have hWC : W99 C := by rw [eC]; exact w99_loan hW ⟨by decide, by decide⟩
  have hBC : B3 C := fun b hb => by rw [eC, st2_n _ _ (by omega)]; exact hv.1.2 b hb
  obtain ⟨v, ev⟩ : ∃ v : Int32, v = I (3 + r) k := ⟨_, rfl⟩
  have hv0 : 0 ≤ v.toInt := by rw [ev]; exact (hW r k hr hk).1
  obtain ⟨I9, J9, eq9, mk, iv, e06⟩ := mend3 hv (by omega) c1 hWC hBC
  refine ⟨v, I9, J9, j + 1, Nat.le_refl _, iv, e06, (nn1 hv0).1, fun z => absurd z (nn1 hv0).2, fun sz => met_cg eq9 ?_⟩
  exact h_strike_ok l D cA ad K V tO tT hi I J X sz (nI r) (nI k) p2 (f9 := 5) (o9 := 129) (by decide) (by decide) v (MCw C J 4).1 (MCw C J 4).2 X (by rw [ev]; exact c_X4_strike_ok l 102 D cA ad hi (Nat.le_refl _) I J X sz r k hr hk h2 (cnF C) (nbF C) (fun w => (MCw C J w).1) (fun w => (MCw C J w).2) (by rw [MCw_0, ← eC]) (by rw [MCw_0]) mk)

set_option maxHeartbeats 800000 in
set_option maxRecDepth 100000 in
theorem dk_bar (l : Launch) (hst : l.stackTraces = false) (D : va_G) (cA : Nat → ClassId) (ad K V : Nat → Nat) (tO tT : Nat) (hi : inj 102 ad) {j : Nat} (hj : j < 25) {I : SI} {J : SJ} {X : SX} (hv : Inv3 j I J X) (p0 p1 p2 : Int32) : ∃ (v : Int32) (I1 : SI) (J1 : SJ) (j' : Nat), j' ≤ j + 1 ∧ Inv3 j' I1 J1 X ∧ I1 0 6 = I 0 6 ∧ v ≠ -1 ∧ (v < -1 → I1 = I ∧ J1 = J) ∧
    ∀ sz, Met l yL_does wsL_does ({ frames := 60, cells := 1, slots := 6, locals := 3000 }) (va_Pc [.ref (ad 0), .int 2, .int p0, .int p1, .int p2] (wPreA D cA ad K V tO tT I J X sz)) (qI 102 D cA ad sz v I1 J1 X) 1 6 (fr 102 ad sz) := by
  rcases inF_01 p0 0 4 with h0 | h0
  · exact ⟨-2, I, J, j, Nat.le_succ j, hv, rfl, by decide, fun _ => ⟨rfl, rfl⟩, fun sz => h_bar_eI l D cA ad K V tO tT hi I J X sz p0 p1 p2 (f9 := 7) (o9 := 102) (by decide) (by decide) (x_X4_bar_1 l hst 102 D cA ad hi (Nat.le_refl _) I J X sz p0 p1 h0)⟩
  obtain ⟨k, hk, rfl⟩ := inF_nat (n := 4) (by decide) h0
  rcases inF_01 p1 0 2 with h2 | h2
  · exact ⟨-3, I, J, j, Nat.le_succ j, hv, rfl, by decide, fun _ => ⟨rfl, rfl⟩, fun sz => h_bar_eA l D cA ad K V tO tT hi I J X sz (nI k) p1 p2 (f9 := 7) (o9 := 104) (by decide) (by decide) (x_X4_bar_2 l hst 102 D cA ad hi (Nat.le_refl _) I J X sz k hk p1 h2)⟩
  have hW : W99 I := hv.1.1.2.1
  obtain ⟨C, eC⟩ : ∃ C : SI, C = st2 I 7 k p1 := ⟨_, rfl⟩
  have c1 : ∀ a, a < 3 ∨ 8 ≤ a → C a = I a := fun a q => by rw [eC]; exact st2_k _ _ (by omega)
  have hWC : W99 C := w99_far hW (fun a b q1 q2 => by rw [eC]; exact st2_n _ _ (by omega))
  have hBC : B3 C := fun b hb => by
    rw [eC]
    by_cases e : b = k
    · obtain ⟨h, q1, q2⟩ := inF_nat (n := 2) (by decide) h2
      exact ⟨h, q1, by rw [e, st2_s]; exact q2⟩
    · rw [st2_n _ _ (by omega)]; exact hv.1.2 b hb
  obtain ⟨v, ev⟩ : ∃ v : Int32, v = I 7 k := ⟨_, rfl⟩
  have hv0 : 0 ≤ v.toInt := by
    obtain ⟨h, q1, q2⟩ := hv.1.2 k hk
    rw [ev, q2, nI_toInt (by omega)]
    omega
  obtain ⟨I9, J9, eq9, mk, iv, e06⟩ := mend3 hv (by omega) c1 hWC hBC
  refine ⟨v, I9, J9, j + 1, Nat.le_refl _, iv, e06, (nn1 hv0).1, fun z => absurd z (nn1 hv0).2, fun sz => met_cg eq9 ?_⟩
  exact h_bar_ok l D cA ad K V tO tT hi I J X sz (nI k) p1 p2 (f9 := 5) (o9 := 129) (by decide) (by decide) v (MCw C J 4).1 (MCw C J 4).2 X (by rw [ev]; exact c_X4_bar_ok l 102 D cA ad hi (Nat.le_refl _) I J X sz k hk p1 h2 (cnF C) (nbF C) (fun w => (MCw C J w).1) (fun w => (MCw C J w).2) (by rw [MCw_0, ← eC]) (by rw [MCw_0]) mk)

set_option maxHeartbeats 800000 in
set_option maxRecDepth 100000 in
theorem dk_fade (l : Launch) (hst : l.stackTraces = false) (D : va_G) (cA : Nat → ClassId) (ad K V : Nat → Nat) (tO tT : Nat) (hi : inj 102 ad) {j : Nat} (hj : j < 25) {I : SI} {J : SJ} {X : SX} (hv : Inv3 j I J X) (p0 p1 p2 : Int32) : ∃ (v : Int32) (I1 : SI) (J1 : SJ) (j' : Nat), j' ≤ j + 1 ∧ Inv3 j' I1 J1 X ∧ I1 0 6 = I 0 6 ∧ v ≠ -1 ∧ (v < -1 → I1 = I ∧ J1 = J) ∧
    ∀ sz, Met l yL_does wsL_does ({ frames := 60, cells := 1, slots := 6, locals := 3000 }) (va_Pc [.ref (ad 0), .int 4, .int p0, .int p1, .int p2] (wPreA D cA ad K V tO tT I J X sz)) (qI 102 D cA ad sz v I1 J1 X) 1 6 (fr 102 ad sz) := by
  have hW : W99 I := hv.1.1.2.1
  obtain ⟨C, eC⟩ : ∃ C : SI, C = (hvOut I 4).1 := ⟨_, rfl⟩
  have hfI := fade_rel hv.1.1.1
  have c1 : ∀ a, a < 3 ∨ 8 ≤ a → C a = I a := fun a q => by rw [eC]; exact hfI.2.2.1 a (by omega)
  have hWC : W99 C := by rw [eC]; exact hvOut_bd hW 4 (Nat.le_refl _)
  have hBC : B3 C := fun b hb => by rw [eC, hfI.2.2.1 7 (by omega)]; exact hv.1.2 b hb
  obtain ⟨v, ev⟩ : ∃ v : Int32, v = (hvOut I 4).2 := ⟨_, rfl⟩
  have hv0 : 0 ≤ v.toInt := by
    obtain ⟨m, q1, q2⟩ := hvOut_n (I := I) 4
    rw [ev, q2, nI_toInt (by omega)]
    omega
  obtain ⟨I9, J9, eq9, mk, iv, e06⟩ := mend3 hv (by omega) c1 hWC hBC
  refine ⟨v, I9, J9, j + 1, Nat.le_refl _, iv, e06, (nn1 hv0).1, fun z => absurd z (nn1 hv0).2, fun sz => met_cg eq9 ?_⟩
  exact h_fade_ok l D cA ad K V tO tT hi I J X sz p0 p1 p2 (f9 := 5) (o9 := 129) (by decide) (by decide) v (MCw C J 4).1 (MCw C J 4).2 X (by rw [ev]; exact c_X4_fade l 102 D cA ad hi (Nat.le_refl _) I J X sz (cnF C) (nbF C) (fun w => (MCw C J w).1) (fun w => (MCw C J w).2) (by rw [MCw_0, ← eC]) (by rw [MCw_0]) mk)

set_option maxHeartbeats 800000 in
set_option maxRecDepth 100000 in
theorem dk_walk (l : Launch) (hst : l.stackTraces = false) (D : va_G) (cA : Nat → ClassId) (ad K V : Nat → Nat) (tO tT : Nat) (hi : inj 102 ad) {j : Nat} (hj : j < 25) {I : SI} {J : SJ} {X : SX} (hv : Inv3 j I J X) (p0 p1 : Int32) : ∃ (v : Int32) (I1 : SI) (J1 : SJ) (j' : Nat), j' ≤ j + 1 ∧ Inv3 j' I1 J1 X ∧ I1 0 6 = (if v = 0 then p1 else I 0 6) ∧ v ≠ -1 ∧ (v < -1 → I1 = I ∧ J1 = J) ∧
    (v = 0 ∨ v = -3) ∧ ∀ sz, Met l yL_walks wsL_walks ({ frames := 60, cells := 1, slots := 6, locals := 3000 }) (va_Pc [.ref (ad 0), .int p0, .int p1] (wPreA D cA ad K V tO tT I J X sz)) (qI 102 D cA ad sz v I1 J1 X) 1 6 (fr 102 ad sz) := by
  rcases inF_01 p0 50 90 with h0 | h0
  · exact ⟨-3, I, J, j, Nat.le_succ j, hv, by rw [if_neg (by decide)], by decide, fun _ => ⟨rfl, rfl⟩, Or.inr rfl, fun sz => h_walk_eA l D cA ad K V tO tT hi I J X sz p0 p1 (f9 := 7) (o9 := 104) (by decide) (by decide) (x_X4_walk_1 l hst 102 D cA ad hi (Nat.le_refl _) I J X sz p0 p1 h0)⟩
  rcases inF_01 p1 100 100000 with h2 | h2
  · exact ⟨-3, I, J, j, Nat.le_succ j, hv, by rw [if_neg (by decide)], by decide, fun _ => ⟨rfl, rfl⟩, Or.inr rfl, fun sz => h_walk_eA l D cA ad K V tO tT hi I J X sz p0 p1 (f9 := 7) (o9 := 104) (by decide) (by decide) (x_X4_walk_2 l hst 102 D cA ad hi (Nat.le_refl _) I J X sz p0 p1 h0 h2)⟩
  obtain ⟨C, eC⟩ : ∃ C : SI, C = st2 (st2 I 0 5 p0) 0 6 p1 := ⟨_, rfl⟩
  obtain ⟨I9, J9, eq9, mk, iv, e06⟩ := begin3 hv (inF_bd h0) (inF_bd h2) eC
  refine ⟨0, I9, J9, 0, Nat.zero_le _, iv, by rw [if_pos rfl]; exact e06, by decide, fun z => absurd z (by decide), Or.inl rfl, fun sz => met_cg eq9 ?_⟩
  exact h_walk_ok l D cA ad K V tO tT hi I J X sz p0 p1 (f9 := 5) (o9 := 129) (by decide) (by decide) (sqB I 10000000 C J 4).1 (sqB I 10000000 C J 4).2 X (c_X4_walk_ok l 102 D cA ad hi (Nat.le_refl _) I J X sz p0 p1 h0 h2 (cnF I) (nbF I) (fun w => (sqB I 10000000 C J w).1) (fun w => (sqB I 10000000 C J w).2) (by rw [← eC]; rfl) rfl mk)

set_option maxHeartbeats 4000000 in
set_option maxRecDepth 100000 in
theorem act_0 (l : Launch) (D : va_G) (cA : Nat → ClassId) (ad K V : Nat → Nat) (tO tT : Nat) (hi : inj 102 ad) (I I1 : SI) (J J1 : SJ) (X : SX) (y v : Int32) (hM : ∀ sz, Met l yL_does wsL_does ({ frames := 60, cells := 1, slots := 6, locals := 3000 }) (va_Pc [.ref (ad 0), .int (1), .int (nI (lowN y 5)), .int (nI (lowN (y >>> ((3 : Int32) &&& 31)) 6)), .int (0)] (wPreA D cA ad K V tO tT I J X sz)) (qI 102 D cA ad sz v I1 J1 X) 1 6 (fr 102 ad sz)) (sz : Nat) : Met l yL_act wsL_act ({ frames := 70, cells := 1, slots := 6, locals := 3500 }) (va_Pc [.ref (ad 0), .int y, .int (nI 0)] (wPreA D cA ad K V tO tT I J X sz)) (qI 102 D cA ad sz v I1 J1 X) 1 6 (fr 102 ad sz) := by
  refine Met.ofW (cc := cL_act) (maxL := 5) (ret := (some .int)) (by decide) rfl ?_
  intro p e s m args below meth c s₁ B hml hv0
  obtain ⟨rfl, ⟨rfl, hP, hK⟩, hXA⟩ := hv0
  have hx := B.exec
  have hb := B.bytes
  have hr := B.returns
  have hts := atoms_spec (ws := wsL_act) B.pre
  have hown : s.vm.findClass RL = some m.cls := findClass_of_methodNamed B.named
  have hlocks := B.notSynchronized
  have hS : va_S (fr 102 ad s.heap.size) s.heap s.heap [] := va_S.rf
  have hA : ∀ k, k < 102 → fr 102 ad s.heap.size (ad k) := fr_ad
  have hl := lv_entry ([.ref (ad 0), .int y, .int (nI 0)]) (n := 5) (Nat.le_of_ble_eq_true rfl)
  rw [lg_entry_eq]
  generalize (lg_sl ([.ref (ad 0), .int y, .int (nI 0)]) ++ List.replicate (5 - (lg_sl ([.ref (ad 0), .int y, .int (nI 0)])).length) Slot.unset).toArray = ls at hl ⊢
  have hl : lv_has ls 5 [(0, .ref (ad 0)), (1, .int y), (2, .int (nI 0))] := hl
  refine lv_iload_n hx hb dL_act_0 rfl (lv_at hl 1 rfl) ?_
  refine lv_iconst (v := 5) hx hb dL_act_1 (by decide) ?_
  refine w_calli (va_runS (As := [.int (y), .int (5)]) (rest := []) ⟨hx, hb, hml, hown, hts⟩ (c_L_low l 102 D cA ad hi (Nat.le_refl _) I J X s.heap.size (y) 5 ⟨by decide, by decide⟩) (va_cwS 2 hts gL_act_L_low rfl rfl rfl (by decide +kernel) ⟨(Nat.le_of_ble_eq_true rfl), (Nat.le_of_ble_eq_true rfl)⟩) (w_preS hK hP) rfl rfl hl.1 rfl (lv_room (Nat.le_of_ble_eq_true rfl)) dL_act_2 ⟨(Nat.le_of_ble_eq_true rfl), (Nat.le_of_ble_eq_true rfl)⟩) hS (fun H locs hP hS => ?_)
  refine lv_istore_n (lv' := [(3, .int (nI (lowN y 5))), (0, .ref (ad 0)), (1, .int (y)), (2, .int (nI (0)))]) hx hb dL_act_5 rfl hl (by decide) rfl (fun ls hl => ?_)
  refine lv_iload_n hx hb dL_act_6 rfl (lv_at hl 2 rfl) ?_
  refine lv_iconst (v := 3) hx hb dL_act_7 (by decide) ?_
  refine lv_ishr hx hb dL_act_8 ?_
  refine lv_bipush (v := 6) hx hb dL_act_9 (by decide) ?_
  refine w_calli (va_runS (As := [.int ((y >>> ((3 : Int32) &&& 31))), .int (6)]) (rest := []) ⟨hx, hb, hml, hown, hts⟩ (c_L_low l 102 D cA ad hi (Nat.le_refl _) I J X H.size ((y >>> ((3 : Int32) &&& 31))) 6 ⟨by decide, by decide⟩) (va_cwS 2 hts gL_act_L_low rfl rfl rfl (by decide +kernel) ⟨(Nat.le_of_ble_eq_true rfl), (Nat.le_of_ble_eq_true rfl)⟩) (w_preS hK hP) rfl rfl hl.1 rfl (lv_room (Nat.le_of_ble_eq_true rfl)) dL_act_11 ⟨(Nat.le_of_ble_eq_true rfl), (Nat.le_of_ble_eq_true rfl)⟩) hS (fun H locs hP hS => ?_)
  refine lv_istore (lv' := [(4, .int (nI (lowN (y >>> ((3 : Int32) &&& 31)) 6))), (3, .int (nI (lowN y 5))), (0, .ref (ad 0)), (1, .int (y)), (2, .int (nI (0)))]) hx hb dL_act_14 hl (by decide) rfl (fun ls hl => ?_)
  refine lv_iload_n hx hb dL_act_16 rfl (lv_at hl 4 rfl) ?_
  refine lv_tableIn (off := 27) (tgt := 44) hx hb dL_act_17 (by decide) (by decide) rfl (by decide) ?_
  refine lv_aload_n hx hb dL_act_44 rfl (lv_at hl 2 rfl) ?_
  refine lv_iconst (v := 1) hx hb dL_act_45 (by decide) ?_
  refine lv_iload_n hx hb dL_act_46 rfl (lv_at hl 1 rfl) ?_
  refine lv_iload hx hb dL_act_47 (lv_at hl 0 rfl) ?_
  refine lv_iconst (v := 0) hx hb dL_act_49 (by decide) ?_
  refine w_calli (vx_runSW (As := [.ref (ad 0), .int (1), .int (nI (lowN y 5)), .int (nI (lowN (y >>> ((3 : Int32) &&& 31)) 6)), .int (0)]) (rest := []) ⟨hx, hb, hml, hown, hts⟩ (hM H.size) (vx_cwSW 5 hts gL_act_L_does rfl rfl rfl (by decide +kernel) ⟨(Nat.le_of_ble_eq_true rfl), (Nat.le_of_ble_eq_true rfl)⟩) (w_preSA hK hP hXA hS) rfl rfl hl.1 rfl (lv_room (Nat.le_of_ble_eq_true rfl)) dL_act_50 ⟨(Nat.le_of_ble_eq_true rfl), (Nat.le_of_ble_eq_true rfl)⟩) hS (fun H locs hP hS => ?_)
  exact w_iret hx hb hr hlocks hK hP hS ⟨rfl, rfl, rfl, rfl⟩ dL_act_53

set_option maxHeartbeats 4000000 in
set_option maxRecDepth 100000 in
theorem act_1 (l : Launch) (D : va_G) (cA : Nat → ClassId) (ad K V : Nat → Nat) (tO tT : Nat) (hi : inj 102 ad) (I I1 : SI) (J J1 : SJ) (X : SX) (y v : Int32) (hM : ∀ sz, Met l yL_does wsL_does ({ frames := 60, cells := 1, slots := 6, locals := 3000 }) (va_Pc [.ref (ad 0), .int (2), .int (nI (lowN (y >>> ((3 : Int32) &&& 31)) 6)), .int (nI (lowN (y >>> ((5 : Int32) &&& 31)) 4)), .int (0)] (wPreA D cA ad K V tO tT I J X sz)) (qI 102 D cA ad sz v I1 J1 X) 1 6 (fr 102 ad sz)) (sz : Nat) : Met l yL_act wsL_act ({ frames := 70, cells := 1, slots := 6, locals := 3500 }) (va_Pc [.ref (ad 0), .int y, .int (nI 1)] (wPreA D cA ad K V tO tT I J X sz)) (qI 102 D cA ad sz v I1 J1 X) 1 6 (fr 102 ad sz) := by
  refine Met.ofW (cc := cL_act) (maxL := 5) (ret := (some .int)) (by decide) rfl ?_
  intro p e s m args below meth c s₁ B hml hv0
  obtain ⟨rfl, ⟨rfl, hP, hK⟩, hXA⟩ := hv0
  have hx := B.exec
  have hb := B.bytes
  have hr := B.returns
  have hts := atoms_spec (ws := wsL_act) B.pre
  have hown : s.vm.findClass RL = some m.cls := findClass_of_methodNamed B.named
  have hlocks := B.notSynchronized
  have hS : va_S (fr 102 ad s.heap.size) s.heap s.heap [] := va_S.rf
  have hA : ∀ k, k < 102 → fr 102 ad s.heap.size (ad k) := fr_ad
  have hl := lv_entry ([.ref (ad 0), .int y, .int (nI 1)]) (n := 5) (Nat.le_of_ble_eq_true rfl)
  rw [lg_entry_eq]
  generalize (lg_sl ([.ref (ad 0), .int y, .int (nI 1)]) ++ List.replicate (5 - (lg_sl ([.ref (ad 0), .int y, .int (nI 1)])).length) Slot.unset).toArray = ls at hl ⊢
  have hl : lv_has ls 5 [(0, .ref (ad 0)), (1, .int y), (2, .int (nI 1))] := hl
  refine lv_iload_n hx hb dL_act_0 rfl (lv_at hl 1 rfl) ?_
  refine lv_iconst (v := 5) hx hb dL_act_1 (by decide) ?_
  refine w_calli (va_runS (As := [.int (y), .int (5)]) (rest := []) ⟨hx, hb, hml, hown, hts⟩ (c_L_low l 102 D cA ad hi (Nat.le_refl _) I J X s.heap.size (y) 5 ⟨by decide, by decide⟩) (va_cwS 2 hts gL_act_L_low rfl rfl rfl (by decide +kernel) ⟨(Nat.le_of_ble_eq_true rfl), (Nat.le_of_ble_eq_true rfl)⟩) (w_preS hK hP) rfl rfl hl.1 rfl (lv_room (Nat.le_of_ble_eq_true rfl)) dL_act_2 ⟨(Nat.le_of_ble_eq_true rfl), (Nat.le_of_ble_eq_true rfl)⟩) hS (fun H locs hP hS => ?_)
  refine lv_istore_n (lv' := [(3, .int (nI (lowN y 5))), (0, .ref (ad 0)), (1, .int (y)), (2, .int (nI (1)))]) hx hb dL_act_5 rfl hl (by decide) rfl (fun ls hl => ?_)
  refine lv_iload_n hx hb dL_act_6 rfl (lv_at hl 2 rfl) ?_
  refine lv_iconst (v := 3) hx hb dL_act_7 (by decide) ?_
  refine lv_ishr hx hb dL_act_8 ?_
  refine lv_bipush (v := 6) hx hb dL_act_9 (by decide) ?_
  refine w_calli (va_runS (As := [.int ((y >>> ((3 : Int32) &&& 31))), .int (6)]) (rest := []) ⟨hx, hb, hml, hown, hts⟩ (c_L_low l 102 D cA ad hi (Nat.le_refl _) I J X H.size ((y >>> ((3 : Int32) &&& 31))) 6 ⟨by decide, by decide⟩) (va_cwS 2 hts gL_act_L_low rfl rfl rfl (by decide +kernel) ⟨(Nat.le_of_ble_eq_true rfl), (Nat.le_of_ble_eq_true rfl)⟩) (w_preS hK hP) rfl rfl hl.1 rfl (lv_room (Nat.le_of_ble_eq_true rfl)) dL_act_11 ⟨(Nat.le_of_ble_eq_true rfl), (Nat.le_of_ble_eq_true rfl)⟩) hS (fun H locs hP hS => ?_)
  refine lv_istore (lv' := [(4, .int (nI (lowN (y >>> ((3 : Int32) &&& 31)) 6))), (3, .int (nI (lowN y 5))), (0, .ref (ad 0)), (1, .int (y)), (2, .int (nI (1)))]) hx hb dL_act_14 hl (by decide) rfl (fun ls hl => ?_)
  refine lv_iload_n hx hb dL_act_16 rfl (lv_at hl 4 rfl) ?_
  refine lv_tableIn (off := 37) (tgt := 54) hx hb dL_act_17 (by decide) (by decide) rfl (by decide) ?_
  refine lv_aload_n hx hb dL_act_54 rfl (lv_at hl 2 rfl) ?_
  refine lv_iconst (v := 2) hx hb dL_act_55 (by decide) ?_
  refine lv_iload hx hb dL_act_56 (lv_at hl 0 rfl) ?_
  refine lv_iload_n hx hb dL_act_58 rfl (lv_at hl 3 rfl) ?_
  refine lv_iconst (v := 5) hx hb dL_act_59 (by decide) ?_
  refine lv_ishr hx hb dL_act_60 ?_
  refine lv_iconst (v := 4) hx hb dL_act_61 (by decide) ?_
  refine w_calli (va_runS (As := [.int ((y >>> ((5 : Int32) &&& 31))), .int (4)]) (rest := [.int (nI (lowN (y >>> ((3 : Int32) &&& 31)) 6)), .int (2), .ref (ad 0)]) ⟨hx, hb, hml, hown, hts⟩ (c_L_low l 102 D cA ad hi (Nat.le_refl _) I J X H.size ((y >>> ((5 : Int32) &&& 31))) 4 ⟨by decide, by decide⟩) (va_cwS 2 hts gL_act_L_low rfl rfl rfl (by decide +kernel) ⟨(Nat.le_of_ble_eq_true rfl), (Nat.le_of_ble_eq_true rfl)⟩) (w_preS hK hP) rfl rfl hl.1 rfl (lv_room (Nat.le_of_ble_eq_true rfl)) dL_act_62 ⟨(Nat.le_of_ble_eq_true rfl), (Nat.le_of_ble_eq_true rfl)⟩) hS (fun H locs hP hS => ?_)
  refine lv_iconst (v := 0) hx hb dL_act_65 (by decide) ?_
  refine w_calli (vx_runSW (As := [.ref (ad 0), .int (2), .int (nI (lowN (y >>> ((3 : Int32) &&& 31)) 6)), .int (nI (lowN (y >>> ((5 : Int32) &&& 31)) 4)), .int (0)]) (rest := []) ⟨hx, hb, hml, hown, hts⟩ (hM H.size) (vx_cwSW 5 hts gL_act_L_does rfl rfl rfl (by decide +kernel) ⟨(Nat.le_of_ble_eq_true rfl), (Nat.le_of_ble_eq_true rfl)⟩) (w_preSA hK hP hXA hS) rfl rfl hl.1 rfl (lv_room (Nat.le_of_ble_eq_true rfl)) dL_act_66 ⟨(Nat.le_of_ble_eq_true rfl), (Nat.le_of_ble_eq_true rfl)⟩) hS (fun H locs hP hS => ?_)
  exact w_iret hx hb hr hlocks hK hP hS ⟨rfl, rfl, rfl, rfl⟩ dL_act_69

set_option maxHeartbeats 4000000 in
set_option maxRecDepth 100000 in
theorem act_2 (l : Launch) (D : va_G) (cA : Nat → ClassId) (ad K V : Nat → Nat) (tO tT : Nat) (hi : inj 102 ad) (I I1 : SI) (J J1 : SJ) (X : SX) (y v : Int32) (hM : ∀ sz, Met l yL_does wsL_does ({ frames := 60, cells := 1, slots := 6, locals := 3000 }) (va_Pc [.ref (ad 0), .int (4), .int (0), .int (0), .int (0)] (wPreA D cA ad K V tO tT I J X sz)) (qI 102 D cA ad sz v I1 J1 X) 1 6 (fr 102 ad sz)) (sz : Nat) : Met l yL_act wsL_act ({ frames := 70, cells := 1, slots := 6, locals := 3500 }) (va_Pc [.ref (ad 0), .int y, .int (nI 2)] (wPreA D cA ad K V tO tT I J X sz)) (qI 102 D cA ad sz v I1 J1 X) 1 6 (fr 102 ad sz) := by
  refine Met.ofW (cc := cL_act) (maxL := 5) (ret := (some .int)) (by decide) rfl ?_
  intro p e s m args below meth c s₁ B hml hv0
  obtain ⟨rfl, ⟨rfl, hP, hK⟩, hXA⟩ := hv0
  have hx := B.exec
  have hb := B.bytes
  have hr := B.returns
  have hts := atoms_spec (ws := wsL_act) B.pre
  have hown : s.vm.findClass RL = some m.cls := findClass_of_methodNamed B.named
  have hlocks := B.notSynchronized
  have hS : va_S (fr 102 ad s.heap.size) s.heap s.heap [] := va_S.rf
  have hA : ∀ k, k < 102 → fr 102 ad s.heap.size (ad k) := fr_ad
  have hl := lv_entry ([.ref (ad 0), .int y, .int (nI 2)]) (n := 5) (Nat.le_of_ble_eq_true rfl)
  rw [lg_entry_eq]
  generalize (lg_sl ([.ref (ad 0), .int y, .int (nI 2)]) ++ List.replicate (5 - (lg_sl ([.ref (ad 0), .int y, .int (nI 2)])).length) Slot.unset).toArray = ls at hl ⊢
  have hl : lv_has ls 5 [(0, .ref (ad 0)), (1, .int y), (2, .int (nI 2))] := hl
  refine lv_iload_n hx hb dL_act_0 rfl (lv_at hl 1 rfl) ?_
  refine lv_iconst (v := 5) hx hb dL_act_1 (by decide) ?_
  refine w_calli (va_runS (As := [.int (y), .int (5)]) (rest := []) ⟨hx, hb, hml, hown, hts⟩ (c_L_low l 102 D cA ad hi (Nat.le_refl _) I J X s.heap.size (y) 5 ⟨by decide, by decide⟩) (va_cwS 2 hts gL_act_L_low rfl rfl rfl (by decide +kernel) ⟨(Nat.le_of_ble_eq_true rfl), (Nat.le_of_ble_eq_true rfl)⟩) (w_preS hK hP) rfl rfl hl.1 rfl (lv_room (Nat.le_of_ble_eq_true rfl)) dL_act_2 ⟨(Nat.le_of_ble_eq_true rfl), (Nat.le_of_ble_eq_true rfl)⟩) hS (fun H locs hP hS => ?_)
  refine lv_istore_n (lv' := [(3, .int (nI (lowN y 5))), (0, .ref (ad 0)), (1, .int (y)), (2, .int (nI (2)))]) hx hb dL_act_5 rfl hl (by decide) rfl (fun ls hl => ?_)
  refine lv_iload_n hx hb dL_act_6 rfl (lv_at hl 2 rfl) ?_
  refine lv_iconst (v := 3) hx hb dL_act_7 (by decide) ?_
  refine lv_ishr hx hb dL_act_8 ?_
  refine lv_bipush (v := 6) hx hb dL_act_9 (by decide) ?_
  refine w_calli (va_runS (As := [.int ((y >>> ((3 : Int32) &&& 31))), .int (6)]) (rest := []) ⟨hx, hb, hml, hown, hts⟩ (c_L_low l 102 D cA ad hi (Nat.le_refl _) I J X H.size ((y >>> ((3 : Int32) &&& 31))) 6 ⟨by decide, by decide⟩) (va_cwS 2 hts gL_act_L_low rfl rfl rfl (by decide +kernel) ⟨(Nat.le_of_ble_eq_true rfl), (Nat.le_of_ble_eq_true rfl)⟩) (w_preS hK hP) rfl rfl hl.1 rfl (lv_room (Nat.le_of_ble_eq_true rfl)) dL_act_11 ⟨(Nat.le_of_ble_eq_true rfl), (Nat.le_of_ble_eq_true rfl)⟩) hS (fun H locs hP hS => ?_)
  refine lv_istore (lv' := [(4, .int (nI (lowN (y >>> ((3 : Int32) &&& 31)) 6))), (3, .int (nI (lowN y 5))), (0, .ref (ad 0)), (1, .int (y)), (2, .int (nI (2)))]) hx hb dL_act_14 hl (by decide) rfl (fun ls hl => ?_)
  refine lv_iload_n hx hb dL_act_16 rfl (lv_at hl 4 rfl) ?_
  refine lv_tableIn (off := 53) (tgt := 70) hx hb dL_act_17 (by decide) (by decide) rfl (by decide) ?_
  refine lv_aload_n hx hb dL_act_70 rfl (lv_at hl 2 rfl) ?_
  refine lv_iconst (v := 4) hx hb dL_act_71 (by decide) ?_
  refine lv_iconst (v := 0) hx hb dL_act_72 (by decide) ?_
  refine lv_iconst (v := 0) hx hb dL_act_73 (by decide) ?_
  refine lv_iconst (v := 0) hx hb dL_act_74 (by decide) ?_
  refine w_calli (vx_runSW (As := [.ref (ad 0), .int (4), .int (0), .int (0), .int (0)]) (rest := []) ⟨hx, hb, hml, hown, hts⟩ (hM H.size) (vx_cwSW 5 hts gL_act_L_does rfl rfl rfl (by decide +kernel) ⟨(Nat.le_of_ble_eq_true rfl), (Nat.le_of_ble_eq_true rfl)⟩) (w_preSA hK hP hXA hS) rfl rfl hl.1 rfl (lv_room (Nat.le_of_ble_eq_true rfl)) dL_act_75 ⟨(Nat.le_of_ble_eq_true rfl), (Nat.le_of_ble_eq_true rfl)⟩) hS (fun H locs hP hS => ?_)
  exact w_iret hx hb hr hlocks hK hP hS ⟨rfl, rfl, rfl, rfl⟩ dL_act_78

set_option maxHeartbeats 4000000 in
set_option maxRecDepth 100000 in
theorem act_3 (l : Launch) (D : va_G) (cA : Nat → ClassId) (ad K V : Nat → Nat) (tO tT : Nat) (hi : inj 102 ad) (I I1 : SI) (J J1 : SJ) (X : SX) (y v : Int32) (kd : Nat) (hk3 : 3 ≤ kd) (hk8 : kd < 8) (hM : ∀ sz, Met l yL_does wsL_does ({ frames := 60, cells := 1, slots := 6, locals := 3000 }) (va_Pc [.ref (ad 0), .int (0), .int (nI (lowN y 5)), .int (nI (lowN (y >>> ((3 : Int32) &&& 31)) 6)), .int (nI (lowN (y >>> ((5 : Int32) &&& 31)) 101))] (wPreA D cA ad K V tO tT I J X sz)) (qI 102 D cA ad sz v I1 J1 X) 1 6 (fr 102 ad sz)) (sz : Nat) : Met l yL_act wsL_act ({ frames := 70, cells := 1, slots := 6, locals := 3500 }) (va_Pc [.ref (ad 0), .int y, .int (nI kd)] (wPreA D cA ad K V tO tT I J X sz)) (qI 102 D cA ad sz v I1 J1 X) 1 6 (fr 102 ad sz) := by
  refine Met.ofW (cc := cL_act) (maxL := 5) (ret := (some .int)) (by decide) rfl ?_
  intro p e s m args below meth c s₁ B hml hv0
  obtain ⟨rfl, ⟨rfl, hP, hK⟩, hXA⟩ := hv0
  have hx := B.exec
  have hb := B.bytes
  have hr := B.returns
  have hts := atoms_spec (ws := wsL_act) B.pre
  have hown : s.vm.findClass RL = some m.cls := findClass_of_methodNamed B.named
  have hlocks := B.notSynchronized
  have hS : va_S (fr 102 ad s.heap.size) s.heap s.heap [] := va_S.rf
  have hA : ∀ k, k < 102 → fr 102 ad s.heap.size (ad k) := fr_ad
  have hl := lv_entry ([.ref (ad 0), .int y, .int (nI kd)]) (n := 5) (Nat.le_of_ble_eq_true rfl)
  rw [lg_entry_eq]
  generalize (lg_sl ([.ref (ad 0), .int y, .int (nI kd)]) ++ List.replicate (5 - (lg_sl ([.ref (ad 0), .int y, .int (nI kd)])).length) Slot.unset).toArray = ls at hl ⊢
  have hl : lv_has ls 5 [(0, .ref (ad 0)), (1, .int y), (2, .int (nI kd))] := hl
  refine lv_iload_n hx hb dL_act_0 rfl (lv_at hl 1 rfl) ?_
  refine lv_iconst (v := 5) hx hb dL_act_1 (by decide) ?_
  refine w_calli (va_runS (As := [.int (y), .int (5)]) (rest := []) ⟨hx, hb, hml, hown, hts⟩ (c_L_low l 102 D cA ad hi (Nat.le_refl _) I J X s.heap.size (y) 5 ⟨by decide, by decide⟩) (va_cwS 2 hts gL_act_L_low rfl rfl rfl (by decide +kernel) ⟨(Nat.le_of_ble_eq_true rfl), (Nat.le_of_ble_eq_true rfl)⟩) (w_preS hK hP) rfl rfl hl.1 rfl (lv_room (Nat.le_of_ble_eq_true rfl)) dL_act_2 ⟨(Nat.le_of_ble_eq_true rfl), (Nat.le_of_ble_eq_true rfl)⟩) hS (fun H locs hP hS => ?_)
  refine lv_istore_n (lv' := [(3, .int (nI (lowN y 5))), (0, .ref (ad 0)), (1, .int (y)), (2, .int (nI (kd)))]) hx hb dL_act_5 rfl hl (by decide) rfl (fun ls hl => ?_)
  refine lv_iload_n hx hb dL_act_6 rfl (lv_at hl 2 rfl) ?_
  refine lv_iconst (v := 3) hx hb dL_act_7 (by decide) ?_
  refine lv_ishr hx hb dL_act_8 ?_
  refine lv_bipush (v := 6) hx hb dL_act_9 (by decide) ?_
  refine w_calli (va_runS (As := [.int ((y >>> ((3 : Int32) &&& 31))), .int (6)]) (rest := []) ⟨hx, hb, hml, hown, hts⟩ (c_L_low l 102 D cA ad hi (Nat.le_refl _) I J X H.size ((y >>> ((3 : Int32) &&& 31))) 6 ⟨by decide, by decide⟩) (va_cwS 2 hts gL_act_L_low rfl rfl rfl (by decide +kernel) ⟨(Nat.le_of_ble_eq_true rfl), (Nat.le_of_ble_eq_true rfl)⟩) (w_preS hK hP) rfl rfl hl.1 rfl (lv_room (Nat.le_of_ble_eq_true rfl)) dL_act_11 ⟨(Nat.le_of_ble_eq_true rfl), (Nat.le_of_ble_eq_true rfl)⟩) hS (fun H locs hP hS => ?_)
  refine lv_istore (lv' := [(4, .int (nI (lowN (y >>> ((3 : Int32) &&& 31)) 6))), (3, .int (nI (lowN y 5))), (0, .ref (ad 0)), (1, .int (y)), (2, .int (nI (kd)))]) hx hb dL_act_14 hl (by decide) rfl (fun ls hl => ?_)
  refine lv_iload_n hx hb dL_act_16 rfl (lv_at hl 4 rfl) ?_
  refine lv_tableOut (tgt := 79) hx hb dL_act_17 (Or.inr (by rw [nI_toInt (by omega)]; omega)) (by decide) ?_
  refine lv_aload_n hx hb dL_act_79 rfl (lv_at hl 2 rfl) ?_
  refine lv_iconst (v := 0) hx hb dL_act_80 (by decide) ?_
  refine lv_iload_n hx hb dL_act_81 rfl (lv_at hl 1 rfl) ?_
  refine lv_iload hx hb dL_act_82 (lv_at hl 0 rfl) ?_
  refine lv_iload_n hx hb dL_act_84 rfl (lv_at hl 3 rfl) ?_
  refine lv_iconst (v := 5) hx hb dL_act_85 (by decide) ?_
  refine lv_ishr hx hb dL_act_86 ?_
  refine lv_bipush (v := 101) hx hb dL_act_87 (by decide) ?_
  refine w_calli (va_runS (As := [.int ((y >>> ((5 : Int32) &&& 31))), .int (101)]) (rest := [.int (nI (lowN (y >>> ((3 : Int32) &&& 31)) 6)), .int (nI (lowN y 5)), .int (0), .ref (ad 0)]) ⟨hx, hb, hml, hown, hts⟩ (c_L_low l 102 D cA ad hi (Nat.le_refl _) I J X H.size ((y >>> ((5 : Int32) &&& 31))) 101 ⟨by decide, by decide⟩) (va_cwS 2 hts gL_act_L_low rfl rfl rfl (by decide +kernel) ⟨(Nat.le_of_ble_eq_true rfl), (Nat.le_of_ble_eq_true rfl)⟩) (w_preS hK hP) rfl rfl hl.1 rfl (lv_room (Nat.le_of_ble_eq_true rfl)) dL_act_89 ⟨(Nat.le_of_ble_eq_true rfl), (Nat.le_of_ble_eq_true rfl)⟩) hS (fun H locs hP hS => ?_)
  refine w_calli (vx_runSW (As := [.ref (ad 0), .int (0), .int (nI (lowN y 5)), .int (nI (lowN (y >>> ((3 : Int32) &&& 31)) 6)), .int (nI (lowN (y >>> ((5 : Int32) &&& 31)) 101))]) (rest := []) ⟨hx, hb, hml, hown, hts⟩ (hM H.size) (vx_cwSW 5 hts gL_act_L_does rfl rfl rfl (by decide +kernel) ⟨(Nat.le_of_ble_eq_true rfl), (Nat.le_of_ble_eq_true rfl)⟩) (w_preSA hK hP hXA hS) rfl rfl hl.1 rfl (lv_room (Nat.le_of_ble_eq_true rfl)) dL_act_92 ⟨(Nat.le_of_ble_eq_true rfl), (Nat.le_of_ble_eq_true rfl)⟩) hS (fun H locs hP hS => ?_)
  exact w_iret hx hb hr hlocks hK hP hS ⟨rfl, rfl, rfl, rfl⟩ dL_act_95

set_option maxHeartbeats 800000 in
set_option maxRecDepth 100000 in
theorem pk_act (l : Launch) (hst : l.stackTraces = false) (D : va_G) (cA : Nat → ClassId) (ad K V : Nat → Nat) (tO tT : Nat) (hi : inj 102 ad) {j : Nat} (hj : j < 25) {I : SI} {J : SJ} {X : SX} (hv : Inv3 j I J X) (y : Int32) (kd : Nat) (hk8 : kd < 8) : ∃ (v : Int32) (I1 : SI) (J1 : SJ) (j' : Nat), j' ≤ j + 1 ∧ Inv3 j' I1 J1 X ∧ I1 0 6 = I 0 6 ∧ v ≠ -1 ∧ (v < -1 → I1 = I ∧ J1 = J) ∧
    ∀ sz, Met l yL_act wsL_act ({ frames := 70, cells := 1, slots := 6, locals := 3500 }) (va_Pc [.ref (ad 0), .int y, .int (nI kd)] (wPreA D cA ad K V tO tT I J X sz)) (qI 102 D cA ad sz v I1 J1 X) 1 6 (fr 102 ad sz) := by
  have hc : kd = 0 ∨ kd = 1 ∨ kd = 2 ∨ 3 ≤ kd := by omega
  rcases hc with z | z | z | z
  · subst z; obtain ⟨v, I1, J1, j9, h1, h2, h3, h4, h5, hM⟩ := dk_strike l hst D cA ad K V tO tT hi hj hv (nI (lowN y 5)) (nI (lowN (y >>> ((3 : Int32) &&& 31)) 6)) (0)
    exact ⟨v, I1, J1, j9, h1, h2, h3, h4, h5, fun sz => act_0 l D cA ad K V tO tT hi I I1 J J1 X y v hM sz⟩
  · subst z; obtain ⟨v, I1, J1, j9, h1, h2, h3, h4, h5, hM⟩ := dk_bar l hst D cA ad K V tO tT hi hj hv (nI (lowN (y >>> ((3 : Int32) &&& 31)) 6)) (nI (lowN (y >>> ((5 : Int32) &&& 31)) 4)) (0)
    exact ⟨v, I1, J1, j9, h1, h2, h3, h4, h5, fun sz => act_1 l D cA ad K V tO tT hi I I1 J J1 X y v hM sz⟩
  · subst z; obtain ⟨v, I1, J1, j9, h1, h2, h3, h4, h5, hM⟩ := dk_fade l hst D cA ad K V tO tT hi hj hv (0) (0) (0)
    exact ⟨v, I1, J1, j9, h1, h2, h3, h4, h5, fun sz => act_2 l D cA ad K V tO tT hi I I1 J J1 X y v hM sz⟩
  · obtain ⟨v, I1, J1, j9, h1, h2, h3, h4, h5, hM⟩ := dk_loan l hst D cA ad K V tO tT hi hj hv (nI (lowN y 5)) (nI (lowN (y >>> ((3 : Int32) &&& 31)) 6)) (nI (lowN (y >>> ((5 : Int32) &&& 31)) 101))
    exact ⟨v, I1, J1, j9, h1, h2, h3, h4, h5, fun sz => act_3 l D cA ad K V tO tT hi I I1 J J1 X y v kd z hk8 hM sz⟩
