/-! each call of the law -/
set_option maxHeartbeats 400000 in
set_option maxRecDepth 100000 in
theorem pk_loan (l : Launch) (hst : l.stackTraces = false) (D : va_G) (cA : Nat → ClassId) (ad K V : Nat → Nat) (tO tT : Nat) (hi : inj 116 ad) {j : Nat} (hj : j < 513) {I : SI} {J : SJ} {X : SX} (hv : Inv2 j I J X) (p0 p1 p2 : Int32) : ∃ (k : Int32) (b : Int32) (I1 : SI) (J1 : SJ) (X1 : SX) (I2 : SI) (J2 : SJ) (X2 : SX) (f o j' : Nat), f ≤ 90 ∧ o ≤ 3000 ∧ j' ≤ j + 1 ∧
    (∀ sz, Met l yL_loan wsL_loan ({ frames := 100, cells := 1, slots := 6, locals := 4000 }) (va_Pc [.ref (ad 0), .int p0, .int p1, .int p2, .ref (ad 114)] (wPreA D cA ad K V tO tT I J X sz)) (qI 116 D cA ad sz k I1 J1 X1) 1 6 (fr 116 ad sz)) ∧
    (∀ sz, Met l yX5_loan wsX5_loan ({ frames := f, cells := 0, slots := 0, locals := o }) (va_Pc [.ref (ad 102), .int p0, .int p1, .int p2] (wPreA D cA ad K V tO tT I1 J1 X1 sz)) (qI 116 D cA ad sz b I2 J2 X2) 0 0 (fr 116 ad sz)) ∧
    I2 102 14 = k ∧ (k = 0 → J2 114 0 = b.toInt64) ∧ Inv2 j' I2 J2 X2 := by
  rcases inF_01 p0 0 3 with h0 | h0
  · exact ⟨1, -1, I, J, X, st2 I 102 14 1, J, X, 7, 177, j, by decide, by decide, Nat.le_succ j, fun sz => h_loan_t1 l D cA ad K V tO tT hi I J X sz p0 p1 p2 (f9 := 7) (o9 := 102) (by decide) (by decide) (x_X4_loan_1 l hst 116 D cA ad hi (by decide) I J X sz p0 p1 p2 h0), fun sz => (c_X5_loan_f1 l 116 D cA ad hi (by decide) I J X sz p0 p1 p2 (isP_a h0)).weak (fun _ _ q => ⟨q.1, q.2.1⟩), st2_s _ _ _ _, fun h => absurd h (by decide), hv.set14⟩
  obtain ⟨r, hr, rfl⟩ := inF_nat (n := 3) (by decide) h0
  rcases inF_01 p1 0 4 with h1 | h1
  · exact ⟨1, -1, I, J, X, st2 I 102 14 1, J, X, 7, 177, j, by decide, by decide, Nat.le_succ j, fun sz => h_loan_t1 l D cA ad K V tO tT hi I J X sz (nI r) p1 p2 (f9 := 7) (o9 := 102) (by decide) (by decide) (x_X4_loan_2 l hst 116 D cA ad hi (by decide) I J X sz r hr p1 p2 h1), fun sz => (c_X5_loan_f1 l 116 D cA ad hi (by decide) I J X sz (nI r) p1 p2 (isP_b h0 h1)).weak (fun _ _ q => ⟨q.1, q.2.1⟩), st2_s _ _ _ _, fun h => absurd h (by decide), hv.set14⟩
  obtain ⟨k, hk, rfl⟩ := inF_nat (n := 4) (by decide) h1
  rcases inF_01 p2 1 99 with h2 | h2
  · exact ⟨2, -1, I, J, X, st2 I 102 14 2, J, X, 7, 177, j, by decide, by decide, Nat.le_succ j, fun sz => h_loan_t2 l D cA ad K V tO tT hi I J X sz (nI r) (nI k) p2 (f9 := 7) (o9 := 104) (by decide) (by decide) (x_X4_loan_3 l hst 116 D cA ad hi (by decide) I J X sz r k hr hk p2 h2), fun sz => (c_X5_loan_f2 l 116 D cA ad hi (by decide) I J X sz (nI r) (nI k) p2 (isP_c h0 h1) h2).weak (fun _ _ q => ⟨q.1, q.2.1⟩), st2_s _ _ _ _, fun h => absurd h (by decide), hv.set14⟩
  have hW : W99 I := hv.1.2.1
  obtain ⟨C, eC⟩ : ∃ C : SI, C = st2 I (3 + r) k (minW (I (3 + r) k + p2)) := ⟨_, rfl⟩
  have c1 : ∀ a, a < 3 ∨ 8 ≤ a → C a = I a := fun a q => by rw [eC]; exact st2_k _ _ (by omega)
  have hWC : W99 C := by rw [eC]; exact w99_loan hW (cap_min (I2 := I) hv.1.1 hW hr hk h2).2
  have hBC : B3 C := fun b hb => by rw [eC, st2_n _ _ (by omega)]; exact hv.2 b hb
  obtain ⟨hRm, fm⟩ := relN_mid hv hj c1 hWC
  obtain ⟨v, ev⟩ : ∃ v : Int32, v = minW (I (3 + r) k + p2) := ⟨_, rfl⟩
  have hcap : v = capW ((st2 (MCw C J 4).1 102 14 0) 103 (5 * r + k) + p2) := ev.trans (cap_min hRm hW hr hk h2).1
  obtain ⟨G, eG⟩ : ∃ G : SI, G = loanMI (MCw C J 4).1 r k p2 := ⟨_, rfl⟩
  have eG2 : G = st2 (st2 (MCw C J 4).1 102 14 0) 103 (5 * r + k) v := by rw [eG]; unfold loanMI; rw [← hcap]
  obtain ⟨J2, eJ2⟩ : ∃ J2 : SJ, J2 = st2 (MCw C J 4).2 114 0 v.toInt64 := ⟨_, rfl⟩
  obtain ⟨mk, sk, iv, e14, ej, ef⟩ := mend_pack hv hj c1 hWC hBC (I2 := G) (by
    have h9 := loan_rel (x := v) hRm hr hk
    have eC' : C = st2 I (3 + r) k v := by rw [ev]; exact eC
    rw [← eC'] at h9
    rw [eG2]; exact h9) (fun a q1 q2 q3 => by rw [eG2, st2_k _ _ q2, st2_k _ _ q1]) (fun y q => by rw [eG2, st2_n _ _ (by omega), st2_n _ _ (by omega)]) (by rw [eG2, st2_n _ _ (by omega), st2_s]) (J2 := J2) (fun a q => by rw [eJ2]; exact st2_k _ _ (by omega))
  refine ⟨0, _, (MCw C J 4).1, J2, X, (MRw C G J2 4).1, (MRw C G J2 4).2, X, 7, 177, j + 1, by decide, by decide, Nat.le_refl _, fun sz => ?_, fun sz => (c_X5_loan_ok l 116 D cA ad hi (by decide) (MCw C J 4).1 J2 X sz r k hr hk p2 (isP_c h0 h1) h2 (loF C) (fun v => (MRw C G J2 v).1) (fun v => (MRw C G J2 v).2) sk (by rw [MRw_0, ← eG]) (by rw [MRw_0, ← eG])).weak (fun _ _ q => ⟨q.1, q.2.1⟩), e14, fun _ => ?_, iv⟩
  · rw [eJ2]
    exact h_loan_ok l D cA ad K V tO tT hi I J X sz (nI r) (nI k) p2 (f9 := 5) (o9 := 129) (by decide) (by decide) v (MCw C J 4).1 (MCw C J 4).2 X (by rw [ev]; exact c_X4_loan_ok l 116 D cA ad hi (by decide) I J X sz r k hr hk p2 h2 (cnF C) (nbF C) (fun w => (MCw C J w).1) (fun w => (MCw C J w).2) (by rw [MCw_0, ← eC]) (by rw [MCw_0]) mk)
  · have e1 : (MRw C G J2 4).1 103 (5 * r + k) = v := by rw [ef 103 _ (by omega), eG2, st2_s]
    rw [ej 114 (by decide), eJ2, st2_s]
    show _ = ((MRw C G (st2 (MCw C J 4).2 114 0 v.toInt64) 4).1 103 (5 * r + k)).toInt64
    rw [← eJ2, e1]

set_option maxHeartbeats 400000 in
set_option maxRecDepth 100000 in
theorem pk_strike (l : Launch) (hst : l.stackTraces = false) (D : va_G) (cA : Nat → ClassId) (ad K V : Nat → Nat) (tO tT : Nat) (hi : inj 116 ad) {j : Nat} (hj : j < 513) {I : SI} {J : SJ} {X : SX} (hv : Inv2 j I J X) (p0 p1 : Int32) : ∃ (k : Int32) (b : Int32) (I1 : SI) (J1 : SJ) (X1 : SX) (I2 : SI) (J2 : SJ) (X2 : SX) (f o j' : Nat), f ≤ 90 ∧ o ≤ 3000 ∧ j' ≤ j + 1 ∧
    (∀ sz, Met l yL_strike wsL_strike ({ frames := 100, cells := 1, slots := 6, locals := 4000 }) (va_Pc [.ref (ad 0), .int p0, .int p1, .ref (ad 114)] (wPreA D cA ad K V tO tT I J X sz)) (qI 116 D cA ad sz k I1 J1 X1) 1 6 (fr 116 ad sz)) ∧
    (∀ sz, Met l yX5_strike wsX5_strike ({ frames := f, cells := 0, slots := 0, locals := o }) (va_Pc [.ref (ad 102), .int p0, .int p1] (wPreA D cA ad K V tO tT I1 J1 X1 sz)) (qI 116 D cA ad sz b I2 J2 X2) 0 0 (fr 116 ad sz)) ∧
    I2 102 14 = k ∧ (k = 0 → J2 114 0 = b.toInt64) ∧ Inv2 j' I2 J2 X2 := by
  rcases inF_01 p0 0 3 with h0 | h0
  · exact ⟨1, -1, I, J, X, st2 I 102 14 1, J, X, 7, 177, j, by decide, by decide, Nat.le_succ j, fun sz => h_strike_t1 l D cA ad K V tO tT hi I J X sz p0 p1 (f9 := 7) (o9 := 102) (by decide) (by decide) (x_X4_strike_1 l hst 116 D cA ad hi (by decide) I J X sz p0 p1 h0), fun sz => (c_X5_strike_f1 l 116 D cA ad hi (by decide) I J X sz p0 p1 (isP_a h0)).weak (fun _ _ q => ⟨q.1, q.2.1⟩), st2_s _ _ _ _, fun h => absurd h (by decide), hv.set14⟩
  obtain ⟨r, hr, rfl⟩ := inF_nat (n := 3) (by decide) h0
  rcases inF_01 p1 0 4 with h1 | h1
  · exact ⟨1, -1, I, J, X, st2 I 102 14 1, J, X, 7, 177, j, by decide, by decide, Nat.le_succ j, fun sz => h_strike_t1 l D cA ad K V tO tT hi I J X sz (nI r) p1 (f9 := 7) (o9 := 102) (by decide) (by decide) (x_X4_strike_2 l hst 116 D cA ad hi (by decide) I J X sz r hr p1 h1), fun sz => (c_X5_strike_f1 l 116 D cA ad hi (by decide) I J X sz (nI r) p1 (isP_b h0 h1)).weak (fun _ _ q => ⟨q.1, q.2.1⟩), st2_s _ _ _ _, fun h => absurd h (by decide), hv.set14⟩
  obtain ⟨k, hk, rfl⟩ := inF_nat (n := 4) (by decide) h1
  by_cases h2 : I (3 + r) k = 0
  · exact ⟨2, -1, I, J, X, st2 I 102 14 2, J, X, 7, 177, j, by decide, by decide, Nat.le_succ j, fun sz => h_strike_t2 l D cA ad K V tO tT hi I J X sz (nI r) (nI k) (f9 := 6) (o9 := 82) (by decide) (by decide) (x_X4_strike_3 l hst 116 D cA ad hi (by decide) I J X sz r k hr hk h2), fun sz => (c_X5_strike_f2 l 116 D cA ad hi (by decide) I J X sz r k hr hk (isP_c h0 h1) ((hv.1.1.1 r k hr hk).symm.trans h2)).weak (fun _ _ q => ⟨q.1, q.2.1⟩), st2_s _ _ _ _, fun h => absurd h (by decide), hv.set14⟩
  have hW : W99 I := hv.1.2.1
  obtain ⟨C, eC⟩ : ∃ C : SI, C = st2 I (3 + r) k 0 := ⟨_, rfl⟩
  have c1 : ∀ a, a < 3 ∨ 8 ≤ a → C a = I a := fun a q => by rw [eC]; exact st2_k _ _ (by omega)
  have hWC : W99 C := by rw [eC]; exact w99_loan hW ⟨by decide, by decide⟩
  have hBC : B3 C := fun b hb => by rw [eC, st2_n _ _ (by omega)]; exact hv.2 b hb
  obtain ⟨hRm, fm⟩ := relN_mid hv hj c1 hWC
  obtain ⟨v, ev⟩ : ∃ v : Int32, v = I (3 + r) k := ⟨_, rfl⟩
  have hcap : (MCw C J 4).1 103 (5 * r + k) = v := ev ▸ (hRm.1 r k hr hk).symm
  obtain ⟨G, eG⟩ : ∃ G : SI, G = strikeMI (MCw C J 4).1 r k := ⟨_, rfl⟩
  have eG2 : G = st2 (st2 (MCw C J 4).1 102 14 0) 103 (5 * r + k) 0 := eG
  obtain ⟨J2, eJ2⟩ : ∃ J2 : SJ, J2 = st2 (MCw C J 4).2 114 0 v.toInt64 := ⟨_, rfl⟩
  obtain ⟨mk, sk, iv, e14, ej, ef⟩ := mend_pack hv hj c1 hWC hBC (I2 := G) (by
    have h9 := loan_rel (x := 0) hRm hr hk
    rw [← eC] at h9
    rw [eG2]; exact h9) (fun a q1 q2 q3 => by rw [eG2, st2_k _ _ q2, st2_k _ _ q1]) (fun y q => by rw [eG2, st2_n _ _ (by omega), st2_n _ _ (by omega)]) (by rw [eG2, st2_n _ _ (by omega), st2_s]) (J2 := J2) (fun a q => by rw [eJ2]; exact st2_k _ _ (by omega))
  refine ⟨0, _, (MCw C J 4).1, J2, X, (MRw C G J2 4).1, (MRw C G J2 4).2, X, 7, 177, j + 1, by decide, by decide, Nat.le_refl _, fun sz => ?_, fun sz => (c_X5_strike_ok l 116 D cA ad hi (by decide) (MCw C J 4).1 J2 X sz r k hr hk (isP_c h0 h1) (by rw [hcap, ev]; exact h2) (loF C) (fun v => (MRw C G J2 v).1) (fun v => (MRw C G J2 v).2) sk (by rw [MRw_0, ← eG]) (by rw [MRw_0, ← eG])).weak (fun _ _ q => ⟨q.1, q.2.1⟩), e14, fun _ => ?_, iv⟩
  · rw [eJ2]
    exact h_strike_ok l D cA ad K V tO tT hi I J X sz (nI r) (nI k) (f9 := 5) (o9 := 129) (by decide) (by decide) v (MCw C J 4).1 (MCw C J 4).2 X (by rw [ev]; exact c_X4_strike_ok l 116 D cA ad hi (by decide) I J X sz r k hr hk h2 (cnF C) (nbF C) (fun w => (MCw C J w).1) (fun w => (MCw C J w).2) (by rw [MCw_0, ← eC]) (by rw [MCw_0]) mk)
  · rw [ej 114 (by decide), eJ2, st2_s, hcap]

set_option maxHeartbeats 400000 in
set_option maxRecDepth 100000 in
theorem pk_bar (l : Launch) (hst : l.stackTraces = false) (D : va_G) (cA : Nat → ClassId) (ad K V : Nat → Nat) (tO tT : Nat) (hi : inj 116 ad) {j : Nat} (hj : j < 513) {I : SI} {J : SJ} {X : SX} (hv : Inv2 j I J X) (p0 p1 : Int32) : ∃ (k : Int32) (b : Int32) (I1 : SI) (J1 : SJ) (X1 : SX) (I2 : SI) (J2 : SJ) (X2 : SX) (f o j' : Nat), f ≤ 90 ∧ o ≤ 3000 ∧ j' ≤ j + 1 ∧
    (∀ sz, Met l yL_bar wsL_bar ({ frames := 100, cells := 1, slots := 6, locals := 4000 }) (va_Pc [.ref (ad 0), .int p0, .int p1, .ref (ad 114)] (wPreA D cA ad K V tO tT I J X sz)) (qI 116 D cA ad sz k I1 J1 X1) 1 6 (fr 116 ad sz)) ∧
    (∀ sz, Met l yX5_bar wsX5_bar ({ frames := f, cells := 0, slots := 0, locals := o }) (va_Pc [.ref (ad 102), .int p0, .int p1] (wPreA D cA ad K V tO tT I1 J1 X1 sz)) (qI 116 D cA ad sz b I2 J2 X2) 0 0 (fr 116 ad sz)) ∧
    I2 102 14 = k ∧ (k = 0 → J2 114 0 = b.toInt64) ∧ Inv2 j' I2 J2 X2 := by
  rcases inF_01 p0 0 4 with h0 | h0
  · exact ⟨1, -1, I, J, X, st2 I 102 14 1, J, X, 7, 177, j, by decide, by decide, Nat.le_succ j, fun sz => h_bar_t1 l D cA ad K V tO tT hi I J X sz p0 p1 (f9 := 7) (o9 := 102) (by decide) (by decide) (x_X4_bar_1 l hst 116 D cA ad hi (by decide) I J X sz p0 p1 h0), fun sz => (c_X5_bar_f1 l 116 D cA ad hi (by decide) I J X sz p0 p1 h0).weak (fun _ _ q => ⟨q.1, q.2.1⟩), st2_s _ _ _ _, fun h => absurd h (by decide), hv.set14⟩
  obtain ⟨k, hk, rfl⟩ := inF_nat (n := 4) (by decide) h0
  rcases inF_01 p1 0 2 with h2 | h2
  · exact ⟨2, -1, I, J, X, st2 I 102 14 2, J, X, 7, 177, j, by decide, by decide, Nat.le_succ j, fun sz => h_bar_t2 l D cA ad K V tO tT hi I J X sz (nI k) p1 (f9 := 7) (o9 := 104) (by decide) (by decide) (x_X4_bar_2 l hst 116 D cA ad hi (by decide) I J X sz k hk p1 h2), fun sz => (c_X5_bar_f2 l 116 D cA ad hi (by decide) I J X sz (nI k) p1 h0 h2).weak (fun _ _ q => ⟨q.1, q.2.1⟩), st2_s _ _ _ _, fun h => absurd h (by decide), hv.set14⟩
  have hW : W99 I := hv.1.2.1
  obtain ⟨C, eC⟩ : ∃ C : SI, C = st2 I 7 k p1 := ⟨_, rfl⟩
  have c1 : ∀ a, a < 3 ∨ 8 ≤ a → C a = I a := fun a q => by rw [eC]; exact st2_k _ _ (by omega)
  have hWC : W99 C := w99_far hW (fun a b q1 q2 => by rw [eC]; exact st2_n _ _ (by omega))
  have hBC : B3 C := fun b hb => by
    rw [eC]
    by_cases e : b = k
    · obtain ⟨h, q1, q2⟩ := inF_nat (n := 2) (by decide) h2
      exact ⟨h, q1, by rw [e, st2_s]; exact q2⟩
    · rw [st2_n _ _ (by omega)]; exact hv.2 b hb
  obtain ⟨hRm, fm⟩ := relN_mid hv hj c1 hWC
  obtain ⟨v, ev⟩ : ∃ v : Int32, v = I 7 k := ⟨_, rfl⟩
  have hcap : (MCw C J 4).1 104 k = v := ev ▸ (hRm.2 k hk).symm
  obtain ⟨G, eG⟩ : ∃ G : SI, G = barMI (MCw C J 4).1 k p1 := ⟨_, rfl⟩
  have eG2 : G = st2 (st2 (MCw C J 4).1 102 14 0) 104 k p1 := eG
  obtain ⟨J2, eJ2⟩ : ∃ J2 : SJ, J2 = st2 (MCw C J 4).2 114 0 v.toInt64 := ⟨_, rfl⟩
  obtain ⟨mk, sk, iv, e14, ej, ef⟩ := mend_pack hv hj c1 hWC hBC (I2 := G) (by
    have h9 := bar_rel (x := p1) hRm hk
    rw [← eC] at h9
    rw [eG2]; exact h9) (fun a q1 q2 q3 => by rw [eG2, st2_k _ _ q3, st2_k _ _ q1]) (fun y q => by rw [eG2, st2_n _ _ (by omega), st2_n _ _ (by omega)]) (by rw [eG2, st2_n _ _ (by omega), st2_s]) (J2 := J2) (fun a q => by rw [eJ2]; exact st2_k _ _ (by omega))
  refine ⟨0, _, (MCw C J 4).1, J2, X, (MRw C G J2 4).1, (MRw C G J2 4).2, X, 7, 177, j + 1, by decide, by decide, Nat.le_refl _, fun sz => ?_, fun sz => (c_X5_bar_ok l 116 D cA ad hi (by decide) (MCw C J 4).1 J2 X sz k hk p1 h0 h2 (loF C) (fun v => (MRw C G J2 v).1) (fun v => (MRw C G J2 v).2) sk (by rw [MRw_0, ← eG]) (by rw [MRw_0, ← eG])).weak (fun _ _ q => ⟨q.1, q.2.1⟩), e14, fun _ => ?_, iv⟩
  · rw [eJ2]
    exact h_bar_ok l D cA ad K V tO tT hi I J X sz (nI k) p1 (f9 := 5) (o9 := 129) (by decide) (by decide) v (MCw C J 4).1 (MCw C J 4).2 X (by rw [ev]; exact c_X4_bar_ok l 116 D cA ad hi (by decide) I J X sz k hk p1 h2 (cnF C) (nbF C) (fun w => (MCw C J w).1) (fun w => (MCw C J w).2) (by rw [MCw_0, ← eC]) (by rw [MCw_0]) mk)
  · rw [ej 114 (by decide), eJ2, st2_s, hcap]

/-- halving keeps from 0 to 99 -/
theorem half_bd {x : Int32} (h : 0 ≤ x.toInt ∧ x.toInt ≤ 99) : 0 ≤ (x / 2).toInt ∧ (x / 2).toInt ≤ 99 := by
  have e : (x / 2).toInt = x.toInt.tdiv 2 := Int32.toInt_div_of_ne_right x 2 (by decide)
  rw [e, Int.tdiv_eq_ediv_of_nonneg h.1]
  omega
theorem hvIn_bd {r : Nat} {s : SI × Int32} (h : W99 s.1) (hr : r < 4) : ∀ b, b ≤ 5 → W99 (hvIn r s b).1
  | 0, _ => h
  | b + 1, hb => by
    have ih := hvIn_bd h hr b (by omega)
    unfold hvIn
    exact w99_loan ih (half_bd (ih r b hr (by omega)))
theorem hvOut_bd {I : SI} (h : W99 I) : ∀ r, r ≤ 4 → W99 (hvOut I r).1
  | 0, _ => h
  | r + 1, hr => by
    unfold hvOut
    exact hvIn_bd (hvOut_bd h r (by omega)) (by omega) 5 (Nat.le_refl _)

set_option maxHeartbeats 400000 in
set_option maxRecDepth 100000 in
theorem pk_fade (l : Launch) (hst : l.stackTraces = false) (D : va_G) (cA : Nat → ClassId) (ad K V : Nat → Nat) (tO tT : Nat) (hi : inj 116 ad) {j : Nat} (hj : j < 513) {I : SI} {J : SJ} {X : SX} (hv : Inv2 j I J X) : ∃ (b : Int32) (I1 : SI) (J1 : SJ) (X1 : SX) (I2 : SI) (J2 : SJ) (X2 : SX) (g q f o j' : Nat), g ≤ 90 ∧ q ≤ 3000 ∧ f ≤ 90 ∧ o ≤ 3000 ∧ j' ≤ j + 1 ∧
    (∀ sz, Met l yX4_fade wsX4_fade ({ frames := g, cells := 0, slots := 0, locals := q }) (va_Pc [.ref (ad 0)] (wPreA D cA ad K V tO tT I J X sz)) (qI 116 D cA ad sz b I1 J1 X1) 0 0 (fr 116 ad sz)) ∧
    (∀ sz, Met l yX5_fade wsX5_fade ({ frames := f, cells := 0, slots := 0, locals := o }) (va_Pc [.ref (ad 102)] (wPreA D cA ad K V tO tT I1 J1 X1 sz)) (qI 116 D cA ad sz b I2 J2 X2) 0 0 (fr 116 ad sz)) ∧
    Inv2 j' I2 J2 X2 := by
  have hW : W99 I := hv.1.2.1
  obtain ⟨C, eC⟩ : ∃ C : SI, C = (hvOut I 4).1 := ⟨_, rfl⟩
  have hfI := fade_rel hv.1.1
  have c1 : ∀ a, a < 3 ∨ 8 ≤ a → C a = I a := fun a q => by rw [eC]; exact hfI.2.2.1 a (by omega)
  have hWC : W99 C := by rw [eC]; exact hvOut_bd hW 4 (Nat.le_refl _)
  have hBC : B3 C := fun b hb => by rw [eC, hfI.2.2.1 7 (by omega)]; exact hv.2 b hb
  obtain ⟨hRm, fm⟩ := relN_mid hv hj c1 hWC
  obtain ⟨q1, q2, -, q4⟩ := fade_rel hRm
  obtain ⟨G, eG⟩ : ∃ G : SI, G = (fdM (MCw C J 4).1 20).1 := ⟨_, rfl⟩
  rw [← eG] at q2 q4
  rw [← eC] at q2
  obtain ⟨J2, eJ2⟩ : ∃ J2 : SJ, J2 = (MCw C J 4).2 := ⟨_, rfl⟩
  obtain ⟨mk, sk, iv, e14, ej, ef⟩ := mend_pack hv hj c1 hWC hBC (I2 := G) q2 (fun a z1 z2 z3 => by rw [q4 a z2, st2_k _ _ z1]) (fun y z => by rw [q4 102 (by decide), st2_n _ _ (by omega)]) (by rw [q4 102 (by decide), st2_s]) (J2 := J2) (fun a _ => by rw [eJ2])
  refine ⟨(hvOut I 4).2, (MCw C J 4).1, J2, X, (MRw C G J2 4).1, (MRw C G J2 4).2, X, 5, 129, 7, 177, j + 1, by decide, by decide, by decide, by decide, Nat.le_refl _, fun sz => ?_, fun sz => ?_, iv⟩
  · rw [eJ2]
    exact (c_X4_fade l 116 D cA ad hi (by decide) I J X sz (cnF C) (nbF C) (fun w => (MCw C J w).1) (fun w => (MCw C J w).2) (by rw [MCw_0, ← eC]) (by rw [MCw_0]) mk).weak (fun _ _ q => ⟨q.1, q.2.1⟩)
  · rw [q1]
    exact (c_X5_fade l 116 D cA ad hi (by decide) (MCw C J 4).1 J2 X sz (loF C) (fun v => (MRw C G J2 v).1) (fun v => (MRw C G J2 v).2) sk (by rw [MRw_0, ← eG]) (by rw [MRw_0, ← eG])).weak (fun _ _ q => ⟨q.1, q.2.1⟩)

set_option maxHeartbeats 400000 in
set_option maxRecDepth 100000 in
theorem pk_pushes (l : Launch) (hst : l.stackTraces = false) (D : va_G) (cA : Nat → ClassId) (ad K V : Nat → Nat) (tO tT : Nat) (hi : inj 116 ad) {j : Nat} (hj : j < 513) {I : SI} {J : SJ} {X : SX} (hv : Inv2 j I J X) : ∃ (b : Int32) (I1 : SI) (J1 : SJ) (X1 : SX) (I2 : SI) (J2 : SJ) (X2 : SX) (g q f o j' : Nat), g ≤ 90 ∧ q ≤ 3000 ∧ f ≤ 90 ∧ o ≤ 3000 ∧ j' ≤ j + 1 ∧
    (∀ sz, Met l yX4_pushes wsX4_pushes ({ frames := g, cells := 0, slots := 0, locals := q }) (va_Pc [.ref (ad 0)] (wPreA D cA ad K V tO tT I J X sz)) (qI 116 D cA ad sz b I1 J1 X1) 0 0 (fr 116 ad sz)) ∧
    (∀ sz, Met l yX5_pushes wsX5_pushes ({ frames := f, cells := 0, slots := 0, locals := o }) (va_Pc [.ref (ad 102)] (wPreA D cA ad K V tO tT I1 J1 X1 sz)) (qI 116 D cA ad sz b I2 J2 X2) 0 0 (fr 116 ad sz)) ∧
    Inv2 j' I2 J2 X2 := by
  refine ⟨pcS I 4, I, J, X, st2 I 102 14 0, J, X, 1, 20, 1, 21, j, by decide, by decide, by decide, by decide, Nat.le_succ j, fun sz => (c_X4_pushes l 116 D cA ad hi (by decide) I J X sz).weak (fun _ _ q => ⟨q.1, q.2.1⟩), fun sz => ?_, hv.set14⟩
  rw [hv.1.2.2.2.2.2.2.2.2.2.1]
  exact (c_X5_pushes l 116 D cA ad hi (by decide) I J X sz).weak (fun _ _ q => ⟨q.1, q.2.1⟩)

theorem inF_bd {x a b : Int32} (h : inF x a b = 1) : a.toInt ≤ x.toInt ∧ x.toInt ≤ b.toInt := by
  unfold inF at h
  by_cases h1 : x < a
  · rw [if_pos h1] at h; exact absurd h (by decide)
  · rw [if_neg h1] at h
    by_cases h2 : b < x
    · rw [if_pos h2] at h; exact absurd h (by decide)
    · rw [Int32.lt_iff_toInt_lt] at h1 h2
      omega

set_option maxHeartbeats 400000 in
set_option maxRecDepth 100000 in
theorem pk_walk (l : Launch) (hst : l.stackTraces = false) (D : va_G) (cA : Nat → ClassId) (ad K V : Nat → Nat) (tO tT : Nat) (hi : inj 116 ad) {j : Nat} (hj : j < 513) {I : SI} {J : SJ} {X : SX} (hv : Inv2 j I J X) (p0 p1 : Int32) : ∃ (k : Int32) (I1 : SI) (J1 : SJ) (X1 : SX) (I2 : SI) (J2 : SJ) (X2 : SX) (f o j' : Nat), f ≤ 90 ∧ o ≤ 3000 ∧ j' ≤ j + 1 ∧
    (∀ sz, Met l yL_walk wsL_walk ({ frames := 100, cells := 1, slots := 6, locals := 4000 }) (va_Pc [.ref (ad 0), .int p0, .int p1] (wPreA D cA ad K V tO tT I J X sz)) (qI 116 D cA ad sz k I1 J1 X1) 1 6 (fr 116 ad sz)) ∧
    (∀ sz, Met l yX5_walk wsX5_walk ({ frames := f, cells := 0, slots := 0, locals := o }) (va_Pc [.ref (ad 102), .int p0, .int p1] (wPreA D cA ad K V tO tT I1 J1 X1 sz)) (qV 116 D cA ad sz I2 J2 X2) 0 0 (fr 116 ad sz)) ∧
    I2 102 14 = k ∧ Inv2 j' I2 J2 X2 := by
  rcases inF_01 p0 50 90 with h0 | h0
  · exact ⟨1, I, J, X, st2 I 102 14 1, J, X, 7, 171, j, by decide, by decide, Nat.le_succ j, fun sz => h_walk_t1 l D cA ad K V tO tT hi I J X sz p0 p1 (f9 := 7) (o9 := 104) (by decide) (by decide) (x_X4_walk_1 l hst 116 D cA ad hi (by decide) I J X sz p0 p1 h0), fun sz => (c_X5_walk_f1 l 116 D cA ad hi (by decide) I J X sz p0 p1 h0).weak (fun _ _ q => ⟨q.1, q.2.1⟩), st2_s _ _ _ _, hv.set14⟩
  rcases inF_01 p1 100 100000 with h2 | h2
  · exact ⟨1, I, J, X, st2 I 102 14 1, J, X, 7, 171, j, by decide, by decide, Nat.le_succ j, fun sz => h_walk_t1 l D cA ad K V tO tT hi I J X sz p0 p1 (f9 := 7) (o9 := 104) (by decide) (by decide) (x_X4_walk_2 l hst 116 D cA ad hi (by decide) I J X sz p0 p1 h0 h2), fun sz => (c_X5_walk_f2 l 116 D cA ad hi (by decide) I J X sz p0 p1 h0 h2).weak (fun _ _ q => ⟨q.1, q.2.1⟩), st2_s _ _ _ _, hv.set14⟩
  obtain ⟨hRI, hW, hFI, hOI, hdI, hbI, hdb, hrd, hJ, hpc, hDr, hX, hsb⟩ := id hv.1
  obtain ⟨C, eC⟩ : ∃ C : SI, C = st2 (st2 I 0 5 p0) 0 6 p1 := ⟨_, rfl⟩
  have c1 : ∀ a, a ≠ 0 → C a = I a := fun a q => by rw [eC, st2_k _ _ q, st2_k _ _ q]
  have cd : C 0 5 = p0 := by rw [eC, st2_n _ _ (by omega), st2_s]
  have cb : C 0 6 = p1 := by rw [eC, st2_s]
  have hFC : NetFull I C := full_cg (fun _ _ _ => rfl) (fun a q1 q2 => c1 a (by omega)) hFI
  have hdb3 : dbOK (st2 (st2 I 102 2 p0) 102 3 p1) := by
    unfold dbOK
    rw [st2_n _ _ (by omega), st2_s, st2_s]
    exact ⟨(inF_bd h0).1, (inF_bd h0).2, (inF_bd h2).1, (inF_bd h2).2⟩
  have hR3 : RelN I (st2 (st2 I 102 2 p0) 102 3 p1) := ⟨fun r b hr hb => by rw [st2_n _ _ (by omega), st2_n _ _ (by omega)]; exact hRI.1 r b hr hb, fun b hb => by rw [st2_n _ _ (by omega), st2_n _ _ (by omega)]; exact hRI.2 b hb⟩
  obtain ⟨f1, f2⟩ := sqB_frI (J1 := J) hW hFC hR3 (by rw [cd, st2_n _ _ (by omega), st2_s]) (by rw [cb, st2_s]) hdb3
  obtain ⟨S, eS⟩ : ∃ S : SI × SJ, S = sqB I 10000000 C J 4 := ⟨_, rfl⟩
  rw [← eS] at f1 f2
  obtain ⟨G, eG⟩ : ∃ G : SI, G = walkMI S.1 p0 p1 := ⟨_, rfl⟩
  have eG2 : G = st2 (st2 (st2 S.1 102 14 0) 102 2 p0) 102 3 p1 := eG
  have g2 : G 102 2 = p0 := by rw [eG2, st2_n _ _ (by omega), st2_s]
  have g3 : G 102 3 = p1 := by rw [eG2, st2_s]
  have hk := call_begin hv.1 c1 (I2 := G) (fun a q => by rw [← eS, eG2, st2_k _ _ q, st2_k _ _ q, st2_k _ _ q]) (by rw [← eS, eG2, st2_n _ _ (by omega), st2_n _ _ (by omega), st2_n _ _ (by omega)]) (by rw [cd, g2]) (by rw [cb, g3]) (by
    unfold dbOK
    rw [g2, g3]
    exact ⟨(inF_bd h0).1, (inF_bd h0).2, (inF_bd h2).1, (inF_bd h2).2⟩)
  rw [← eS] at hk
  obtain ⟨mk, sk, iv, ef⟩ := hk
  refine ⟨0, S.1, S.2, X, (sqR (loF I) 10000000 G (beginM S.2) 4).1, (sqR (loF I) 10000000 G (beginM S.2) 4).2, X, 7, 171, 0, by decide, by decide, Nat.zero_le _, fun sz => ?_, fun sz => (c_X5_walk_ok l 116 D cA ad hi (by decide) S.1 S.2 X sz p0 p1 h0 h2 (loF I) (fun v => (sqR (loF I) 10000000 G (beginM S.2) v).1) (fun v => (sqR (loF I) 10000000 G (beginM S.2) v).2) sk (by rw [← eG]; rfl) rfl).weak (fun _ _ q => ⟨q.1, q.2.1⟩), ?_, iv, fun b hb => ?_⟩
  · refine h_walk_ok l D cA ad K V tO tT hi I J X sz p0 p1 (f9 := 5) (o9 := 129) (by decide) (by decide) S.1 S.2 X ?_
    rw [eS]
    exact c_X4_walk_ok l 116 D cA ad hi (by decide) I J X sz p0 p1 h0 h2 (cnF I) (nbF I) (fun w => (sqB I 10000000 C J w).1) (fun w => (sqB I 10000000 C J w).2) (by rw [← eC]; rfl) rfl mk
  · rw [ef 102 14 (by omega), eG2, st2_n _ _ (by omega), st2_n _ _ (by omega), st2_s]
  · rw [ef 7 b (by omega), eG2, st2_n _ _ (by omega), st2_n _ _ (by omega), st2_n _ _ (by omega), f1 7 b (by omega), c1 7 (by decide)]
    exact hv.2 b hb

set_option maxHeartbeats 400000 in
set_option maxRecDepth 100000 in
theorem pk_landed (l : Launch) (hst : l.stackTraces = false) (D : va_G) (cA : Nat → ClassId) (ad K V : Nat → Nat) (tO tT : Nat) (hi : inj 116 ad) {j : Nat} (hj : j < 513) {I : SI} {J : SJ} {X : SX} (hv : Inv2 j I J X) (p0 p1 : Int32) : ∃ (k : Int32) (b : Int32) (I1 : SI) (J1 : SJ) (X1 : SX) (I2 : SI) (J2 : SJ) (X2 : SX) (f o j' : Nat), f ≤ 90 ∧ o ≤ 3000 ∧ j' ≤ j + 1 ∧
    (∀ sz, Met l yL_landed wsL_landed ({ frames := 100, cells := 1, slots := 6, locals := 4000 }) (va_Pc [.ref (ad 0), .int p0, .int p1, .ref (ad 114)] (wPreA D cA ad K V tO tT I J X sz)) (qI 116 D cA ad sz k I1 J1 X1) 1 6 (fr 116 ad sz)) ∧
    (∀ sz, Met l yX5_landed wsX5_landed ({ frames := f, cells := 0, slots := 0, locals := o }) (va_Pc [.ref (ad 102), .int p0, .int p1] (wPreA D cA ad K V tO tT I1 J1 X1 sz)) (qI 116 D cA ad sz b I2 J2 X2) 0 0 (fr 116 ad sz)) ∧
    I2 102 14 = k ∧ (k = 0 → J2 114 0 = b.toInt64) ∧ Inv2 j' I2 J2 X2 := by
  rcases inF_01 p0 0 3 with h0 | h0
  · exact ⟨1, -1, I, J, X, st2 I 102 14 1, J, X, 2, 45, j, by decide, by decide, Nat.le_succ j, fun sz => h_landed_t1 l D cA ad K V tO tT hi I J X sz p0 p1 (f9 := 7) (o9 := 102) (by decide) (by decide) (x_X4_landed_1 l hst 116 D cA ad hi (by decide) I J X sz p0 p1 h0), fun sz => (c_X5_landed_f1 l 116 D cA ad hi (by decide) I J X sz p0 p1 (isN_a h0)).weak (fun _ _ q => ⟨q.1, q.2.1⟩), st2_s _ _ _ _, fun h => absurd h (by decide), hv.set14⟩
  obtain ⟨r, hr, rfl⟩ := inF_nat (n := 3) (by decide) h0
  rcases inF_01 p1 0 8 with h1 | h1
  · exact ⟨1, -1, I, J, X, st2 I 102 14 1, J, X, 2, 45, j, by decide, by decide, Nat.le_succ j, fun sz => h_landed_t1 l D cA ad K V tO tT hi I J X sz (nI r) p1 (f9 := 7) (o9 := 102) (by decide) (by decide) (x_X4_landed_2 l hst 116 D cA ad hi (by decide) I J X sz r hr p1 h1), fun sz => (c_X5_landed_f1 l 116 D cA ad hi (by decide) I J X sz (nI r) p1 (isN_b h0 h1)).weak (fun _ _ q => ⟨q.1, q.2.1⟩), st2_s _ _ _ _, fun h => absurd h (by decide), hv.set14⟩
  obtain ⟨n, hn, rfl⟩ := inF_nat (n := 8) (by decide) h1
  have hJ := hv.1.2.2.2.2.2.2.2.2.1 r hr n hn
  refine ⟨0, _, I, st2 J 114 0 ((J (35 + r) n).toInt32).toInt64, X, st2 I 102 14 0, st2 J 114 0 ((J (35 + r) n).toInt32).toInt64, X, 2, 45, j, by decide, by decide, Nat.le_succ j, fun sz => h_landed_ok l D cA ad K V tO tT hi I J X sz (nI r) (nI n) (f9 := 1) (o9 := 21) (by decide) (by decide) _ I J X (c_X4_landed_ok l 116 D cA ad hi (by decide) I J X sz r n hr hn), fun sz => (c_X5_landed_ok l 116 D cA ad hi (by decide) I (st2 J 114 0 ((J (35 + r) n).toInt32).toInt64) X sz r n hr hn (isN_c h0 h1)).weak (fun _ _ q => ⟨q.1, q.2.1⟩), st2_s _ _ _ _, fun _ => ?_, hv.out.set14⟩
  rw [st2_s, st2_n _ _ (by omega), ← hJ.1]

set_option maxHeartbeats 400000 in
set_option maxRecDepth 100000 in
theorem pk_rest (l : Launch) (hst : l.stackTraces = false) (D : va_G) (cA : Nat → ClassId) (ad K V : Nat → Nat) (tO tT : Nat) (hi : inj 116 ad) {j : Nat} (hj : j < 513) {I : SI} {J : SJ} {X : SX} (hv : Inv2 j I J X) (p0 p1 : Int32) : ∃ (k : Int32) (b : Int32) (I1 : SI) (J1 : SJ) (X1 : SX) (I2 : SI) (J2 : SJ) (X2 : SX) (f o j' : Nat), f ≤ 90 ∧ o ≤ 3000 ∧ j' ≤ j + 1 ∧
    (∀ sz, Met l yL_rest wsL_rest ({ frames := 100, cells := 1, slots := 6, locals := 4000 }) (va_Pc [.ref (ad 0), .int p0, .int p1, .ref (ad 114)] (wPreA D cA ad K V tO tT I J X sz)) (qI 116 D cA ad sz k I1 J1 X1) 1 6 (fr 116 ad sz)) ∧
    (∀ sz, Met l yX5_rest wsX5_rest ({ frames := f, cells := 0, slots := 0, locals := o }) (va_Pc [.ref (ad 102), .int p0, .int p1] (wPreA D cA ad K V tO tT I1 J1 X1 sz)) (qI 116 D cA ad sz b I2 J2 X2) 0 0 (fr 116 ad sz)) ∧
    I2 102 14 = k ∧ (k = 0 → J2 114 0 = b.toInt64) ∧ Inv2 j' I2 J2 X2 := by
  rcases inF_01 p0 0 3 with h0 | h0
  · exact ⟨1, -1, I, J, X, st2 I 102 14 1, J, X, 2, 45, j, by decide, by decide, Nat.le_succ j, fun sz => h_rest_t1 l D cA ad K V tO tT hi I J X sz p0 p1 (f9 := 7) (o9 := 102) (by decide) (by decide) (x_X4_rest_1 l hst 116 D cA ad hi (by decide) I J X sz p0 p1 h0), fun sz => (c_X5_rest_f1 l 116 D cA ad hi (by decide) I J X sz p0 p1 (isN_a h0)).weak (fun _ _ q => ⟨q.1, q.2.1⟩), st2_s _ _ _ _, fun h => absurd h (by decide), hv.set14⟩
  obtain ⟨r, hr, rfl⟩ := inF_nat (n := 3) (by decide) h0
  rcases inF_01 p1 0 8 with h1 | h1
  · exact ⟨1, -1, I, J, X, st2 I 102 14 1, J, X, 2, 45, j, by decide, by decide, Nat.le_succ j, fun sz => h_rest_t1 l D cA ad K V tO tT hi I J X sz (nI r) p1 (f9 := 7) (o9 := 102) (by decide) (by decide) (x_X4_rest_2 l hst 116 D cA ad hi (by decide) I J X sz r hr p1 h1), fun sz => (c_X5_rest_f1 l 116 D cA ad hi (by decide) I J X sz (nI r) p1 (isN_b h0 h1)).weak (fun _ _ q => ⟨q.1, q.2.1⟩), st2_s _ _ _ _, fun h => absurd h (by decide), hv.set14⟩
  obtain ⟨n, hn, rfl⟩ := inF_nat (n := 8) (by decide) h1
  have hJ := hv.1.2.2.2.2.2.2.2.2.1 r hr n hn
  refine ⟨0, _, I, st2 J 114 0 ((J (39 + r) n).toInt32).toInt64, X, st2 I 102 14 0, st2 J 114 0 ((J (39 + r) n).toInt32).toInt64, X, 2, 45, j, by decide, by decide, Nat.le_succ j, fun sz => h_rest_ok l D cA ad K V tO tT hi I J X sz (nI r) (nI n) (f9 := 1) (o9 := 21) (by decide) (by decide) _ I J X (c_X4_rest_ok l 116 D cA ad hi (by decide) I J X sz r n hr hn), fun sz => (c_X5_rest_ok l 116 D cA ad hi (by decide) I (st2 J 114 0 ((J (39 + r) n).toInt32).toInt64) X sz r n hr hn (isN_c h0 h1)).weak (fun _ _ q => ⟨q.1, q.2.1⟩), st2_s _ _ _ _, fun _ => ?_, hv.out.set14⟩
  rw [st2_s, st2_n _ _ (by omega), ← hJ.2.1]

set_option maxHeartbeats 400000 in
set_option maxRecDepth 100000 in
theorem pk_sent (l : Launch) (hst : l.stackTraces = false) (D : va_G) (cA : Nat → ClassId) (ad K V : Nat → Nat) (tO tT : Nat) (hi : inj 116 ad) {j : Nat} (hj : j < 513) {I : SI} {J : SJ} {X : SX} (hv : Inv2 j I J X) (p0 p1 p2 : Int32) : ∃ (k : Int32) (b : Int32) (I1 : SI) (J1 : SJ) (X1 : SX) (I2 : SI) (J2 : SJ) (X2 : SX) (f o j' : Nat), f ≤ 90 ∧ o ≤ 3000 ∧ j' ≤ j + 1 ∧
    (∀ sz, Met l yL_sent wsL_sent ({ frames := 100, cells := 1, slots := 6, locals := 4000 }) (va_Pc [.ref (ad 0), .int p0, .int p1, .int p2, .ref (ad 114)] (wPreA D cA ad K V tO tT I J X sz)) (qI 116 D cA ad sz k I1 J1 X1) 1 6 (fr 116 ad sz)) ∧
    (∀ sz, Met l yX5_sent wsX5_sent ({ frames := f, cells := 0, slots := 0, locals := o }) (va_Pc [.ref (ad 102), .int p0, .int p1, .int p2] (wPreA D cA ad K V tO tT I1 J1 X1 sz)) (qI 116 D cA ad sz b I2 J2 X2) 0 0 (fr 116 ad sz)) ∧
    I2 102 14 = k ∧ (k = 0 → J2 114 0 = b.toInt64) ∧ Inv2 j' I2 J2 X2 := by
  rcases inF_01 p0 0 3 with h0 | h0
  · exact ⟨1, -1, I, J, X, st2 I 102 14 1, J, X, 2, 45, j, by decide, by decide, Nat.le_succ j, fun sz => h_sent_t1 l D cA ad K V tO tT hi I J X sz p0 p1 p2 (f9 := 7) (o9 := 102) (by decide) (by decide) (x_X4_sent_1 l hst 116 D cA ad hi (by decide) I J X sz p0 p1 p2 h0), fun sz => (c_X5_sent_f1 l 116 D cA ad hi (by decide) I J X sz p0 p1 p2 (isN_a h0)).weak (fun _ _ q => ⟨q.1, q.2.1⟩), st2_s _ _ _ _, fun h => absurd h (by decide), hv.set14⟩
  obtain ⟨r, hr, rfl⟩ := inF_nat (n := 3) (by decide) h0
  rcases inF_01 p1 0 8 with h1 | h1
  · exact ⟨1, -1, I, J, X, st2 I 102 14 1, J, X, 2, 45, j, by decide, by decide, Nat.le_succ j, fun sz => h_sent_t1 l D cA ad K V tO tT hi I J X sz (nI r) p1 p2 (f9 := 7) (o9 := 102) (by decide) (by decide) (x_X4_sent_2 l hst 116 D cA ad hi (by decide) I J X sz r hr p1 p2 h1), fun sz => (c_X5_sent_f1 l 116 D cA ad hi (by decide) I J X sz (nI r) p1 p2 (isN_b h0 h1)).weak (fun _ _ q => ⟨q.1, q.2.1⟩), st2_s _ _ _ _, fun h => absurd h (by decide), hv.set14⟩
  obtain ⟨n, hn, rfl⟩ := inF_nat (n := 8) (by decide) h1
  rcases inF_01 p2 0 8 with h2 | h2
  · exact ⟨1, -1, I, J, X, st2 I 102 14 1, J, X, 2, 45, j, by decide, by decide, Nat.le_succ j, fun sz => h_sent_t1 l D cA ad K V tO tT hi I J X sz (nI r) (nI n) p2 (f9 := 7) (o9 := 102) (by decide) (by decide) (x_X4_sent_3 l hst 116 D cA ad hi (by decide) I J X sz r n hr hn p2 h2), fun sz => (c_X5_sent_f2 l 116 D cA ad hi (by decide) I J X sz (nI r) (nI n) p2 (isN_c h0 h1) h2).weak (fun _ _ q => ⟨q.1, q.2.1⟩), st2_s _ _ _ _, fun h => absurd h (by decide), hv.set14⟩
  obtain ⟨q, hq, rfl⟩ := inF_nat (n := 8) (by decide) h2
  have hJ := (hv.1.2.2.2.2.2.2.2.2.1 r hr n hn).2.2 q hq
  refine ⟨0, _, I, st2 J 114 0 ((J (47 + 9 * r + n) q).toInt32).toInt64, X, st2 I 102 14 0, st2 J 114 0 ((J (47 + 9 * r + n) q).toInt32).toInt64, X, 2, 45, j, by decide, by decide, Nat.le_succ j, fun sz => h_sent_ok l D cA ad K V tO tT hi I J X sz (nI r) (nI n) (nI q) (f9 := 1) (o9 := 22) (by decide) (by decide) _ I J X (c_X4_sent_ok l 116 D cA ad hi (by decide) I J X sz r n q hr hn hq), fun sz => (c_X5_sent_ok l 116 D cA ad hi (by decide) I (st2 J 114 0 ((J (47 + 9 * r + n) q).toInt32).toInt64) X sz r n q hr hn hq (isN_c h0 h1) h2).weak (fun _ _ q => ⟨q.1, q.2.1⟩), st2_s _ _ _ _, fun _ => ?_, hv.out.set14⟩
  rw [st2_s, st2_n _ _ (by omega), ← hJ]
