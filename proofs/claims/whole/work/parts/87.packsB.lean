/-! each call of the law: lists, ways, shares, texts -/
theorem rwIn_fr {r k j : Nat} {s : SI × SJ × Nat} : ∀ o, (∀ a, a ≠ 83 → a ≠ 85 → a ≠ 86 → (rwIn r k j s o).1 a = s.1 a) ∧ (∀ a, a ≠ 84 → (rwIn r k j s o).2.1 a = s.2.1 a)
  | 0 => ⟨fun _ _ _ _ => rfl, fun _ _ => rfl⟩
  | o + 1 => by
    obtain ⟨h1, h2⟩ := rwIn_fr (r := r) (k := k) (j := j) (s := s) o
    unfold rwIn
    by_cases q : isWc (rwIn r k j s o).1 r j o k
    · rw [if_pos q]
      refine ⟨fun a p1 p2 p3 => ?_, fun a p => ?_⟩
      · dsimp only
        unfold adI
        rw [st2_k _ _ p1, st2_k _ _ p3, st2_k _ _ p2]
        exact h1 a p1 p2 p3
      · dsimp only
        rw [st2_k _ _ p]
        exact h2 a p
    · rw [if_neg q]
      exact ⟨h1, h2⟩
theorem rwOut_fr {I : SI} {J : SJ} {r k : Nat} : ∀ j, (∀ a, a ≠ 83 → a ≠ 85 → a ≠ 86 → (rwOut I J r k j).1 a = I a) ∧ (∀ a, a ≠ 84 → (rwOut I J r k j).2.1 a = J a)
  | 0 => ⟨fun a p _ _ => st2_k _ _ p, fun _ _ => rfl⟩
  | j + 1 => by
    obtain ⟨h1, h2⟩ := rwOut_fr (I := I) (J := J) (r := r) (k := k) j
    obtain ⟨g1, g2⟩ := rwIn_fr (r := r) (k := k) (j := j) (s := rwOut I J r k j) 4
    unfold rwOut
    exact ⟨fun a p1 p2 p3 => (g1 a p1 p2 p3).trans (h1 a p1 p2 p3), fun a p => (g2 a p).trans (h2 a p)⟩
theorem relN_cg {I I1 I2 : SI} (h : RelN I I1) (e3 : I2 103 = I1 103) (e4 : I2 104 = I1 104) : RelN I I2 := ⟨fun r b hr hb => by rw [e3]; exact h.1 r b hr hb, fun b hb => by rw [e4]; exact h.2 b hb⟩
theorem m1_ne {f : Nat} (hf : f < 20) : ¬ (-1 : Int32) = nI f := fun e => by
  have := congrArg Int32.toInt e
  rw [nI_toInt (by omega)] at this
  have h1 : (-1 : Int32).toInt = -1 := rfl
  omega
theorem nI_inj9 {a b : Nat} (ha : a < 2147483648) (hb : b < 2147483648) (h : nI a = nI b) : a = b := by
  have := congrArg Int32.toInt h
  rw [nI_toInt (by omega), nI_toInt (by omega)] at this
  omega

set_option maxHeartbeats 400000 in
set_option maxRecDepth 100000 in
theorem pk_listed (l : Launch) (hst : l.stackTraces = false) (D : va_G) (cA : Nat → ClassId) (ad K V : Nat → Nat) (tO tT : Nat) (hi : inj 116 ad) {j : Nat} (hj : j < 513) {I : SI} {J : SJ} {X : SX} (hv : Inv2 j I J X) (p0 p1 : Int32) : ∃ (k : Int32) (b : Int32) (I1 : SI) (J1 : SJ) (X1 : SX) (I2 : SI) (J2 : SJ) (X2 : SX) (f o j' : Nat), f ≤ 90 ∧ o ≤ 3000 ∧ j' ≤ j + 1 ∧
    (∀ sz, Met l yL_listed wsL_listed ({ frames := 100, cells := 1, slots := 6, locals := 4000 }) (va_Pc [.ref (ad 0), .int p0, .int p1, .ref (ad 114)] (wPreA D cA ad K V tO tT I J X sz)) (qI 116 D cA ad sz k I1 J1 X1) 1 6 (fr 116 ad sz)) ∧
    (∀ sz, Met l yX5_listed wsX5_listed ({ frames := f, cells := 0, slots := 0, locals := o }) (va_Pc [.ref (ad 102), .int p0, .int p1] (wPreA D cA ad K V tO tT I1 J1 X1 sz)) (qI 116 D cA ad sz b I2 J2 X2) 0 0 (fr 116 ad sz)) ∧
    I2 102 14 = k ∧ (k = 0 → J2 114 0 = b.toInt64) ∧ Inv2 j' I2 J2 X2 := by
  rcases inF_01 p0 0 3 with h0 | h0
  · exact ⟨1, -1, I, J, X, st2 I 102 14 1, J, X, 2, 50, j, by decide, by decide, Nat.le_succ j, fun sz => h_listed_t1 l D cA ad K V tO tT hi I J X sz p0 p1 (f9 := 7) (o9 := 102) (by decide) (by decide) (x_X4_listed_1 l hst 116 D cA ad hi (by decide) I J X sz p0 p1 h0), fun sz => (c_X5_listed_f1 l 116 D cA ad hi (by decide) I J X sz p0 p1 h0).weak (fun _ _ q => ⟨q.1, q.2.1⟩), st2_s _ _ _ _, fun h => absurd h (by decide), hv.set14⟩
  obtain ⟨r, hr, rfl⟩ := inF_nat (n := 3) (by decide) h0
  by_cases h1 : p1 < 0
  · exact ⟨1, -1, I, J, X, st2 I 102 14 1, J, X, 2, 50, j, by decide, by decide, Nat.le_succ j, fun sz => h_listed_t1 l D cA ad K V tO tT hi I J X sz (nI r) p1 (f9 := 7) (o9 := 102) (by decide) (by decide) (x_X4_listed_2 l hst 116 D cA ad hi (by decide) I J X sz r hr p1 h1), fun sz => (c_X5_listed_f2 l 116 D cA ad hi (by decide) I J X sz (nI r) p1 h0 h1).weak (fun _ _ q => ⟨q.1, q.2.1⟩), st2_s _ _ _ _, fun h => absurd h (by decide), hv.set14⟩
  have hb := rb_eq (I := I) (J := J) hr 5 (Nat.le_refl _)
  obtain ⟨S, eS⟩ : ∃ S : SI × SJ × Nat, S = rbS I J r 5 := ⟨_, rfl⟩
  obtain ⟨-, fI, fJ, -⟩ := hb
  rw [← eS] at fI fJ
  have hR2 : RelN I (st2 S.1 102 14 0) := relN_cg hv.1.1 (by rw [st2_k _ _ (by decide), fI _ (by decide) (by decide) (by decide)]) (by rw [st2_k _ _ (by decide), fI _ (by decide) (by decide) (by decide)])
  have hJr := hv.1.2.2.2.2.2.2.2.2.1 r hr
  have hin : ∀ (v : Int64) , Inv2 j (st2 S.1 102 14 0) (st2 S.2.1 114 0 v) X := fun v => Inv2.set14 (Inv2_cg hv (fun a b q1 q2 q3 => by rw [fI a (by omega) (by omega) (by omega)]) (sb_cg (fI 100 (by decide) (by decide) (by decide)) hv.sb) (fun a q => by rw [st2_k _ _ (by omega), fJ a (by omega)]) hv.x)
  have hg : ∀ (v r1 : Int32), (∀ sz, Met l yX4_listed wsX4_listed ({ frames := 2, cells := 0, slots := 0, locals := 46 }) (va_Pc [.ref (ad 0), .int (nI r), .int p1] (wPre 116 D cA ad I J X sz)) (qI 116 D cA ad sz v S.1 S.2.1 X) 0 0 (fr 116 ad sz)) → liF (st2 S.1 102 14 0) (st2 S.2.1 114 0 v.toInt64) r p1 5 0 = v → ∃ (k : Int32) (b : Int32) (I1 : SI) (J1 : SJ) (X1 : SX) (I2 : SI) (J2 : SJ) (X2 : SX) (f o j' : Nat), f ≤ 90 ∧ o ≤ 3000 ∧ j' ≤ j + 1 ∧
    (∀ sz, Met l yL_listed wsL_listed ({ frames := 100, cells := 1, slots := 6, locals := 4000 }) (va_Pc [.ref (ad 0), .int (nI r), .int p1, .ref (ad 114)] (wPreA D cA ad K V tO tT I J X sz)) (qI 116 D cA ad sz k I1 J1 X1) 1 6 (fr 116 ad sz)) ∧
    (∀ sz, Met l yX5_listed wsX5_listed ({ frames := f, cells := 0, slots := 0, locals := o }) (va_Pc [.ref (ad 102), .int (nI r), .int p1] (wPreA D cA ad K V tO tT I1 J1 X1 sz)) (qI 116 D cA ad sz b I2 J2 X2) 0 0 (fr 116 ad sz)) ∧
    I2 102 14 = k ∧ (k = 0 → J2 114 0 = b.toInt64) ∧ Inv2 j' I2 J2 X2 := fun v r1 hm hl =>
    ⟨0, v, S.1, st2 S.2.1 114 0 v.toInt64, X, st2 S.1 102 14 0, st2 S.2.1 114 0 v.toInt64, X, 2, 50, j, by decide, by decide, Nat.le_succ j, fun sz => h_listed_ok l D cA ad K V tO tT hi I J X sz (nI r) p1 (f9 := 2) (o9 := 46) (by decide) (by decide) v S.1 S.2.1 X (hm sz), fun sz => by
      have hq := c_X5_listed_ok l 116 D cA ad hi (by decide) S.1 (st2 S.2.1 114 0 v.toInt64) X sz r p1 hr h0 h1
      rw [hl] at hq
      exact hq.weak (fun _ _ q => ⟨q.1, q.2.1⟩), st2_s _ _ _ _, fun _ => st2_s _ _ _ _, hin _⟩
  have hJv : ∀ v : Int64, RelW r J (st2 S.2.1 114 0 v) := fun v => RelW_of (fun a q1 q2 => by rw [st2_k _ _ (by omega), fJ a (by omega)]) hJr
  rcases list_eq (pl := p1) hR2 (hJv 0) hr with ⟨-, b⟩ | ⟨f, hf, b, -⟩
  · rcases list_eq (pl := p1) hR2 (hJv (-1 : Int32).toInt64) hr with ⟨a', -⟩ | ⟨f', hf', b', -⟩
    · exact hg (-1) 0 (fun sz => by rw [eS]; exact c_X4_listed_no l 116 D cA ad hi (by decide) I J X sz r hr p1 h1 b) a'
    · exact absurd (b.symm.trans b') (m1_ne hf')
  · rcases list_eq (pl := p1) hR2 (hJv ((rbS I J r 5).1 85 f).toInt64) hr with ⟨-, b'⟩ | ⟨f', hf', b', c'⟩
    · exact absurd (b'.symm.trans b) (m1_ne hf)
    · have : f' = f := nI_inj9 (by omega) (by omega) (b'.symm.trans b)
      subst this
      exact hg ((rbS I J r 5).1 85 f') 0 (fun sz => by rw [eS]; exact c_X4_listed_ok l 116 D cA ad hi (by decide) I J X sz r hr p1 h1 f' hf' b') c'.symm

set_option maxHeartbeats 400000 in
set_option maxRecDepth 100000 in
theorem pk_way (l : Launch) (hst : l.stackTraces = false) (D : va_G) (cA : Nat → ClassId) (ad K V : Nat → Nat) (tO tT : Nat) (hi : inj 116 ad) {j : Nat} (hj : j < 513) {I : SI} {J : SJ} {X : SX} (hv : Inv2 j I J X) (p0 p1 p2 p3 : Int32) : ∃ (k : Int32) (b : Int32) (I1 : SI) (J1 : SJ) (X1 : SX) (I2 : SI) (J2 : SJ) (X2 : SX) (f o j' : Nat), f ≤ 90 ∧ o ≤ 3000 ∧ j' ≤ j + 1 ∧
    (∀ sz, Met l yL_way wsL_way ({ frames := 100, cells := 1, slots := 6, locals := 4000 }) (va_Pc [.ref (ad 0), .int p0, .int p1, .int p2, .int p3, .ref (ad 114)] (wPreA D cA ad K V tO tT I J X sz)) (qI 116 D cA ad sz k I1 J1 X1) 1 6 (fr 116 ad sz)) ∧
    (∀ sz, Met l yX5_way wsX5_way ({ frames := f, cells := 0, slots := 0, locals := o }) (va_Pc [.ref (ad 102), .int p0, .int p1, .int p2, .int p3] (wPreA D cA ad K V tO tT I1 J1 X1 sz)) (qI 116 D cA ad sz b I2 J2 X2) 0 0 (fr 116 ad sz)) ∧
    I2 102 14 = k ∧ (k = 0 → J2 114 0 = b.toInt64) ∧ Inv2 j' I2 J2 X2 := by
  rcases inF_01 p0 0 3 with h0 | h0
  · exact ⟨1, -1, I, J, X, st2 I 102 14 1, J, X, 3, 75, j, by decide, by decide, Nat.le_succ j, fun sz => h_way_t1 l D cA ad K V tO tT hi I J X sz p0 p1 p2 p3 (f9 := 7) (o9 := 102) (by decide) (by decide) (x_X4_way_1 l hst 116 D cA ad hi (by decide) I J X sz p0 p1 p2 p3 h0), fun sz => (c_X5_way_f1 l 116 D cA ad hi (by decide) I J X sz p0 p1 p2 p3 (isP_a h0)).weak (fun _ _ q => ⟨q.1, q.2.1⟩), st2_s _ _ _ _, fun h => absurd h (by decide), hv.set14⟩
  obtain ⟨r, hr, rfl⟩ := inF_nat (n := 3) (by decide) h0
  rcases inF_01 p1 0 4 with h1 | h1
  · exact ⟨1, -1, I, J, X, st2 I 102 14 1, J, X, 3, 75, j, by decide, by decide, Nat.le_succ j, fun sz => h_way_t1 l D cA ad K V tO tT hi I J X sz (nI r) p1 p2 p3 (f9 := 7) (o9 := 102) (by decide) (by decide) (x_X4_way_2 l hst 116 D cA ad hi (by decide) I J X sz r hr p1 p2 p3 h1), fun sz => (c_X5_way_f1 l 116 D cA ad hi (by decide) I J X sz (nI r) p1 p2 p3 (isP_b h0 h1)).weak (fun _ _ q => ⟨q.1, q.2.1⟩), st2_s _ _ _ _, fun h => absurd h (by decide), hv.set14⟩
  obtain ⟨kb, hk, rfl⟩ := inF_nat (n := 4) (by decide) h1
  by_cases h2 : p2 < 0
  · exact ⟨1, -1, I, J, X, st2 I 102 14 1, J, X, 3, 75, j, by decide, by decide, Nat.le_succ j, fun sz => h_way_t1 l D cA ad K V tO tT hi I J X sz (nI r) (nI kb) p2 p3 (f9 := 7) (o9 := 102) (by decide) (by decide) (x_X4_way_3 l hst 116 D cA ad hi (by decide) I J X sz r kb hr hk p2 p3 h2), fun sz => (c_X5_way_f2 l 116 D cA ad hi (by decide) I J X sz (nI r) (nI kb) p2 p3 (isP_c h0 h1) h2).weak (fun _ _ q => ⟨q.1, q.2.1⟩), st2_s _ _ _ _, fun h => absurd h (by decide), hv.set14⟩
  rcases inF_01 p3 0 2 with h3 | h3
  · exact ⟨2, -1, I, J, X, st2 I 102 14 2, J, X, 3, 75, j, by decide, by decide, Nat.le_succ j, fun sz => h_way_t2 l D cA ad K V tO tT hi I J X sz (nI r) (nI kb) p2 p3 (f9 := 7) (o9 := 104) (by decide) (by decide) (x_X4_way_4 l hst 116 D cA ad hi (by decide) I J X sz r kb hr hk p2 p3 h2 h3), fun sz => (c_X5_way_f3 l 116 D cA ad hi (by decide) I J X sz (nI r) (nI kb) p2 p3 (isP_c h0 h1) h2 h3).weak (fun _ _ q => ⟨q.1, q.2.1⟩), st2_s _ _ _ _, fun h => absurd h (by decide), hv.set14⟩
  obtain ⟨fI, fJ⟩ := rwOut_fr (I := I) (J := J) (r := r) (k := kb) 5
  obtain ⟨S, eS⟩ : ∃ S : SI × SJ × Nat, S = rwOut I J r kb 5 := ⟨_, rfl⟩
  rw [← eS] at fI fJ
  have hW : W99 I := hv.1.2.1
  have hF : NetFull I I := hv.1.2.2.1
  have hR1 : RelN I S.1 := relN_cg hv.1.1 (fI _ (by decide) (by decide) (by decide)) (fI _ (by decide) (by decide) (by decide))
  have hR2 : RelN I (st2 S.1 102 14 0) := relN_cg hR1 (st2_k _ _ (by decide)) (st2_k _ _ (by decide))
  obtain ⟨-, -, fW, -⟩ := way_out hF hW hR2 (J := J) hr hk 5 (Nat.le_refl _)
  obtain ⟨T, eT⟩ : ∃ T : SI × Nat, T = wyOut (st2 S.1 102 14 0) r kb 5 := ⟨_, rfl⟩
  have hwe := way_eq hF hW hR2 (J := J) (pl := p2) (wh := p3) hr hk
  have hAll : AllOK S.1 := all_ok hR1 hW
  rw [← eT] at fW
  rw [← eT, ← eS] at hwe
  have hin : ∀ (v : Int64), Inv2 j T.1 (st2 S.2.1 114 0 v) X := fun v => Inv2_cg hv (fun a b q1 q2 q3 => by rw [fW a (by omega) (by omega) (by omega), st2_n _ _ (by omega), fI a (by omega) (by omega) (by omega)]) (sb_cg (by rw [fW 100 (by decide) (by decide) (by decide), st2_k _ _ (by decide), fI 100 (by decide) (by decide) (by decide)]) hv.sb) (fun a q => by rw [st2_k _ _ (by omega), fJ a (by omega)]) hv.x
  have hg : ∀ (v : Int32), (∀ sz, Met l yX4_way wsX4_way ({ frames := 4, cells := 0, slots := 0, locals := 97 }) (va_Pc [.ref (ad 0), .int (nI r), .int (nI kb), .int p2, .int p3] (wPre 116 D cA ad I J X sz)) (qI 116 D cA ad sz v S.1 S.2.1 X) 0 0 (fr 116 ad sz)) → waF T.1 T.2 p2 p3 T.2 0 = v → ∃ (k : Int32) (b : Int32) (I1 : SI) (J1 : SJ) (X1 : SX) (I2 : SI) (J2 : SJ) (X2 : SX) (f o j' : Nat), f ≤ 90 ∧ o ≤ 3000 ∧ j' ≤ j + 1 ∧
    (∀ sz, Met l yL_way wsL_way ({ frames := 100, cells := 1, slots := 6, locals := 4000 }) (va_Pc [.ref (ad 0), .int (nI r), .int (nI kb), .int p2, .int p3, .ref (ad 114)] (wPreA D cA ad K V tO tT I J X sz)) (qI 116 D cA ad sz k I1 J1 X1) 1 6 (fr 116 ad sz)) ∧
    (∀ sz, Met l yX5_way wsX5_way ({ frames := f, cells := 0, slots := 0, locals := o }) (va_Pc [.ref (ad 102), .int (nI r), .int (nI kb), .int p2, .int p3] (wPreA D cA ad K V tO tT I1 J1 X1 sz)) (qI 116 D cA ad sz b I2 J2 X2) 0 0 (fr 116 ad sz)) ∧
    I2 102 14 = k ∧ (k = 0 → J2 114 0 = b.toInt64) ∧ Inv2 j' I2 J2 X2 := fun v hm hl =>
    ⟨0, v, S.1, st2 S.2.1 114 0 v.toInt64, X, T.1, st2 S.2.1 114 0 v.toInt64, X, 3, 75, j, by decide, by decide, Nat.le_succ j, fun sz => h_way_ok l D cA ad K V tO tT hi I J X sz (nI r) (nI kb) p2 p3 (f9 := 4) (o9 := 97) (by decide) (by decide) v S.1 S.2.1 X (hm sz), fun sz => by
      have hq := c_X5_way_ok l 116 D cA ad hi (by decide) S.1 (st2 S.2.1 114 0 v.toInt64) X sz r kb p2 p3 hr hk (isP_c h0 h1) h2 h3 hAll
      rw [← eT, hl] at hq
      exact hq.weak (fun _ _ q => ⟨q.1, q.2.1⟩), by rw [fW 102 (by decide) (by decide) (by decide), st2_s], fun _ => st2_s _ _ _ _, hin _⟩
  rcases hwe with ⟨b, a⟩ | ⟨f, hf, b, c⟩
  · exact hg (-1) (fun sz => by rw [eS]; rw [eS] at b; exact c_X4_way_no l 116 D cA ad hi (by decide) I J X sz r kb hr hk p2 p3 h2 h3 b) a
  · obtain ⟨w, hw, e3⟩ := inF_nat (n := 2) (by decide) h3
    rw [eS] at b
    have hw3 : w = 0 ∨ w = 1 ∨ w = 2 := by omega
    rcases hw3 with z | z | z
    · have e4 : p3 = 0 := by rw [e3, z]; rfl
      rw [if_pos e4] at c
      exact hg _ (fun sz => by rw [eS, e4]; exact c_X4_way_0 l 116 D cA ad hi (by decide) I J X sz r kb hr hk p2 h2 f hf b) c
    · have e4 : p3 = 1 := by rw [e3, z]; rfl
      rw [if_neg (by rw [e4]; decide), if_pos e4] at c
      exact hg _ (fun sz => by rw [eS, e4]; exact c_X4_way_1 l 116 D cA ad hi (by decide) I J X sz r kb hr hk p2 h2 f hf b) c
    · have e4 : p3 = 2 := by rw [e3, z]; rfl
      rw [if_neg (by rw [e4]; decide), if_neg (by rw [e4]; decide)] at c
      exact hg _ (fun sz => by rw [eS, e4]; exact c_X4_way_2 l 116 D cA ad hi (by decide) I J X sz r kb hr hk p2 h2 f hf b) c

set_option maxHeartbeats 400000 in
set_option maxRecDepth 100000 in
theorem pk_share (l : Launch) (hst : l.stackTraces = false) (D : va_G) (cA : Nat → ClassId) (ad K V : Nat → Nat) (tO tT : Nat) (hi : inj 116 ad) {j : Nat} (hj : j < 513) {I : SI} {J : SJ} {X : SX} (hv : Inv2 j I J X) (p0 p1 : Int32) : ∃ (k : Int32) (b : UInt64) (I1 : SI) (J1 : SJ) (X1 : SX) (I2 : SI) (J2 : SJ) (X2 : SX) (f o j' : Nat), f ≤ 90 ∧ o ≤ 3000 ∧ j' ≤ j + 1 ∧
    (∀ sz, Met l yL_share wsL_share ({ frames := 100, cells := 1, slots := 6, locals := 4000 }) (va_Pc [.ref (ad 0), .int p0, .int p1, .ref (ad 115)] (wPreA D cA ad K V tO tT I J X sz)) (qI 116 D cA ad sz k I1 J1 X1) 1 6 (fr 116 ad sz)) ∧
    (∀ sz, Met l yX5_share wsX5_share ({ frames := f, cells := 0, slots := 0, locals := o }) (va_Pc [.ref (ad 102), .int p0, .int p1] (wPreA D cA ad K V tO tT I1 J1 X1 sz)) (qD 116 D cA ad sz b I2 J2 X2) 0 0 (fr 116 ad sz)) ∧
    I2 102 14 = k ∧ (k = 0 → X2 115 0 = b) ∧ Inv2 j' I2 J2 X2 := by
  rcases inF_01 p0 0 3 with h0 | h0
  · exact ⟨1, 13830554455654793216, I, J, X, st2 I 102 14 1, J, X, 3, 70, j, by decide, by decide, Nat.le_succ j, fun sz => h_share_t1 l D cA ad K V tO tT hi I J X sz p0 p1 (f9 := 7) (o9 := 102) (by decide) (by decide) (x_X4_share_1 l hst 116 D cA ad hi (by decide) I J X sz p0 p1 h0), fun sz => (c_X5_share_f1 l 116 D cA ad hi (by decide) I J X sz p0 p1 (isN_a h0)).weak (fun _ _ q => ⟨q.1, q.2.1⟩), st2_s _ _ _ _, fun h => absurd h (by decide), hv.set14⟩
  obtain ⟨r, hr, rfl⟩ := inF_nat (n := 3) (by decide) h0
  rcases inF_01 p1 0 8 with h1 | h1
  · exact ⟨1, 13830554455654793216, I, J, X, st2 I 102 14 1, J, X, 3, 70, j, by decide, by decide, Nat.le_succ j, fun sz => h_share_t1 l D cA ad K V tO tT hi I J X sz (nI r) p1 (f9 := 7) (o9 := 102) (by decide) (by decide) (x_X4_share_2 l hst 116 D cA ad hi (by decide) I J X sz r hr p1 h1), fun sz => (c_X5_share_f1 l 116 D cA ad hi (by decide) I J X sz (nI r) p1 (isN_b h0 h1)).weak (fun _ _ q => ⟨q.1, q.2.1⟩), st2_s _ _ _ _, fun h => absurd h (by decide), hv.set14⟩
  obtain ⟨n, hn, rfl⟩ := inF_nat (n := 8) (by decide) h1
  have hW : W99 I := hv.1.2.1
  have hF : NetFull I I := hv.1.2.2.1
  have hR2 : RelN I (st2 I 102 14 0) := relN_cg hv.1.1 (st2_k _ _ (by decide)) (st2_k _ _ (by decide))
  have hd : I 0 5 = I 102 2 := hv.1.2.2.2.2.1
  have hdb : dbOK I := hv.1.2.2.2.2.2.2.1
  have d1 : 50 ≤ (I 0 5).toInt := by rw [hd]; exact hdb.1
  have d2 : (I 0 5).toInt ≤ 90 := by rw [hd]; exact hdb.2.1
  obtain ⟨X1, eX1⟩ : ∃ X1 : SX, X1 = soR (soK (flO I r (dmF (I 0 5)) X 9) 9) 9 := ⟨_, rfl⟩
  obtain ⟨v, ev⟩ : ∃ v : UInt64, v = X1 99 n := ⟨_, rfl⟩
  obtain ⟨X2, eX2⟩ : ∃ X2 : SX, X2 = st2 X1 115 0 v := ⟨_, rfl⟩
  have hq0 := share_same (I2 := st2 I 102 14 0) (X := X) (X' := X) hF hW hR2 hr d1 d2 hv.x
  rw [← eX1] at hq0
  obtain ⟨a1, a2, -, -, -, a6, -⟩ := hq0
  have hx2 : ∀ i, i < 9 → X 99 i = X2 110 i := fun i hi9 => by rw [eX2, st2_n _ _ (by omega), a6 110 (Or.inr (by decide))]; exact hv.x i hi9
  have hq1 := share_same (I2 := st2 I 102 14 0) (X := X) (X' := X2) hF hW hR2 hr d1 d2 hx2
  rw [← eX1] at hq1
  obtain ⟨-, -, b3, b4, b5, -, b7⟩ := hq1
  have e5 : (st2 I 102 14 0) 102 2 = I 0 5 := by rw [st2_n _ _ (by omega), hd]
  obtain ⟨X3, eX3⟩ : ∃ X3 : SX, X3 = moR (moK (mfO (st2 I 102 14 0) r (dmF (I 0 5)) X2 9) 9) 9 := ⟨_, rfl⟩
  rw [← eX3] at b5 b7
  have h115 : X3 115 0 = v := by rw [b7 115 (by decide) (by decide) (by decide), eX2, st2_s]
  have h99 : ∀ i, i < 9 → X3 99 i = X3 110 i := fun i hi9 => by rw [← b5 i hi9, b7 99 (by decide) (by decide) (by decide), eX2, st2_n _ _ (by omega)]
  refine ⟨0, X3 110 n, I, J, X2, st2 I 102 14 0, J, X3, 3, 70, j, by decide, by decide, Nat.le_succ j, fun sz => ?_, fun sz => ?_, st2_s _ _ _ _, fun _ => by rw [h115, ev]; exact b5 n hn, Inv2.set14 (Inv2_cg hv (fun _ _ _ _ _ => rfl) hv.sb (fun _ _ => rfl) h99)⟩
  · rw [eX2]
    refine h_share_ok l D cA ad K V tO tT hi I J X sz (nI r) (nI n) (f9 := 4) (o9 := 97) (by decide) (by decide) v I J X1 ?_
    rw [ev, eX1]
    exact c_X4_share_ok l 116 D cA ad hi (by decide) I J X sz r n hr hn a1 a2
  · have hq := c_X5_share_ok l 116 D cA ad hi (by decide) I J X2 sz r n hr hn (isN_c h0 h1) (by rw [e5]; exact b3) (by rw [e5]; exact b4)
    rw [e5, ← eX3] at hq
    exact hq.weak (fun _ _ q => ⟨q.1, q.2.1⟩)

set_option maxHeartbeats 400000 in
set_option maxRecDepth 100000 in
theorem pk_text (l : Launch) (hst : l.stackTraces = false) (D : va_G) (cA : Nat → ClassId) (ad K V : Nat → Nat) (tO tT : Nat) (hi : inj 116 ad) {j : Nat} (hj : j < 513) {I : SI} {J : SJ} {X : SX} (hv : Inv2 j I J X) (p0 p1 p2 : Int32) : ∃ (k : Int32) (b : Int32) (I1 : SI) (J1 : SJ) (X1 : SX) (I2 : SI) (J2 : SJ) (X2 : SX) (f o j' : Nat), f ≤ 90 ∧ o ≤ 3000 ∧ j' ≤ j + 1 ∧
    (∀ sz, Met l yL_text wsL_text ({ frames := 100, cells := 1, slots := 6, locals := 4000 }) (va_Pc [.ref (ad 0), .int p0, .int p1, .int p2, .ref (ad 114)] (wPreA D cA ad K V tO tT I J X sz)) (qI 116 D cA ad sz k I1 J1 X1) 1 6 (fr 116 ad sz)) ∧
    (∀ sz, Met l yX5_text wsX5_text ({ frames := f, cells := 0, slots := 0, locals := o }) (va_Pc [.ref (ad 102), .int p0, .int p1, .int p2] (wPreA D cA ad K V tO tT I1 J1 X1 sz)) (qI 116 D cA ad sz b I2 J2 X2) 0 0 (fr 116 ad sz)) ∧
    I2 102 14 = k ∧ (k = 0 → J2 114 0 = b.toInt64) ∧ Inv2 j' I2 J2 X2 := by
  rcases inF_01 p0 0 3 with h0 | h0
  · exact ⟨1, 0, I, J, X, st2 I 102 14 1, J, X, 2, 45, j, by decide, by decide, Nat.le_succ j, fun sz => h_text_t1 l D cA ad K V tO tT hi I J X sz p0 p1 p2 (f9 := 7) (o9 := 102) (by decide) (by decide) (x_X4_text_1 l hst 116 D cA ad hi (by decide) I J X sz p0 p1 p2 h0), fun sz => (c_X5_text_f1 l 116 D cA ad hi (by decide) I J X sz p0 p1 p2 (isP_a h0)).weak (fun _ _ q => ⟨q.1, q.2.1⟩), st2_s _ _ _ _, fun h => absurd h (by decide), hv.set14⟩
  obtain ⟨r, hr, rfl⟩ := inF_nat (n := 3) (by decide) h0
  rcases inF_01 p1 0 4 with h1 | h1
  · exact ⟨1, 0, I, J, X, st2 I 102 14 1, J, X, 2, 45, j, by decide, by decide, Nat.le_succ j, fun sz => h_text_t1 l D cA ad K V tO tT hi I J X sz (nI r) p1 p2 (f9 := 7) (o9 := 102) (by decide) (by decide) (x_X4_text_2 l hst 116 D cA ad hi (by decide) I J X sz r p1 p2 hr h1), fun sz => (c_X5_text_f1 l 116 D cA ad hi (by decide) I J X sz (nI r) p1 p2 (isP_b h0 h1)).weak (fun _ _ q => ⟨q.1, q.2.1⟩), st2_s _ _ _ _, fun h => absurd h (by decide), hv.set14⟩
  obtain ⟨k, hk, rfl⟩ := inF_nat (n := 4) (by decide) h1
  by_cases h2 : p2 < 0
  · exact ⟨1, 0, I, J, X, st2 I 102 14 1, J, X, 2, 45, j, by decide, by decide, Nat.le_succ j, fun sz => h_text_t1 l D cA ad K V tO tT hi I J X sz (nI r) (nI k) p2 (f9 := 7) (o9 := 102) (by decide) (by decide) (x_X4_text_3 l hst 116 D cA ad hi (by decide) I J X sz r k p2 hr hk h2), fun sz => (c_X5_text_f2 l 116 D cA ad hi (by decide) I J X sz (nI r) (nI k) p2 (isP_c h0 h1) h2).weak (fun _ _ q => ⟨q.1, q.2.1⟩), st2_s _ _ _ _, fun h => absurd h (by decide), hv.set14⟩
  obtain ⟨pl, hpl, rfl⟩ := nat_of h2
  have hW : W99 I := hv.1.2.1
  obtain ⟨hc, n, hn, en⟩ := hv.sb
  obtain ⟨w, hw, ew⟩ : ∃ w, w < 100 ∧ I (3 + r) k = nI w := by
    obtain ⟨a, b⟩ := hW r k hr hk
    refine ⟨(I (3 + r) k).toInt.toNat, by omega, ?_⟩
    apply Int32.toInt_inj.mp
    rw [nI_toInt (by omega)]
    omega
  obtain ⟨h, hh, eh⟩ := hv.2 k hk
  obtain ⟨I1, eI1⟩ : ∃ I1 : SI, I1 = tL (sbM I n) (lineL r k w h) := ⟨_, rfl⟩
  have hlen := lineL_len (r := r) (b := k) w h hr hk
  have hfar : ∀ a b, a ≠ 100 → a ≠ 101 → I1 a b = I a b := fun a b q1 q2 => by
    rw [eI1]
    unfold tL
    rw [if_neg (by omega), if_neg (by omega), sbM_o _ _ (by omega)]
  have hsb1 : sbOK I1 := ⟨by rw [eI1, tL_cod, sbM_o _ _ (by omega)]; exact hc, (lineL r k w h).length, by omega, by rw [eI1, tL_cnt]⟩
  obtain ⟨v, ev⟩ : ∃ v : Int32, v = nI ((lineL r k w h).getD pl 0) := ⟨_, rfl⟩
  refine ⟨0, v, I1, st2 J 114 0 v.toInt64, X, st2 I1 102 14 0, st2 J 114 0 v.toInt64, X, 5, 107, j, by decide, by decide, Nat.le_succ j, fun sz => ?_, fun sz => ?_, st2_s _ _ _ _, fun _ => st2_s _ _ _ _, Inv2.set14 (Inv2.out (Inv2_cg hv (fun a b q1 q2 q3 => hfar a b (by omega) (by omega)) hsb1 (fun _ _ => rfl) hv.x))⟩
  · refine h_text_ok l D cA ad K V tO tT hi I J X sz (nI r) (nI k) (nI pl) (f9 := 6) (o9 := 151) (by decide) (by decide) v I1 J X ?_
    rw [ev, eI1]
    exact c_X4_text_ok l 116 D cA ad K V tO tT hi (by decide) I J X sz r k w h n hr hk ew hw eh hh en (by omega) hc pl hpl
  · rw [ev]
    exact (c_X5_text_ok l 116 D cA ad K V tO tT hi (by decide) I1 (st2 J 114 0 (nI ((lineL r k w h).getD pl 0)).toInt64) X sz r k w h pl hr hk (isP_c h0 h1) (by rw [hfar 103 _ (by decide) (by decide), ← hv.1.1.1 r k hr hk]; exact ew) hw (by rw [hfar 104 _ (by decide) (by decide), ← hv.1.1.2 k hk]; exact eh) hh hpl).weak (fun _ _ q => ⟨q.1, q.2.1, q.2.2.2.1⟩)
