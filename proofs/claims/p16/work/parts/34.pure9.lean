/-! all walks begun anew, side by side -/
theorem bgIn_eq {J : SJ} {w n : Nat} : ∀ k, (∀ q, q < k → bgIn J w n k (47 + 9 * w + n) q = 0) ∧ (∀ a, a ≠ 47 + 9 * w + n → bgIn J w n k a = J a)
  | 0 => ⟨fun q h => absurd h (Nat.not_lt_zero _), fun _ _ => rfl⟩
  | k + 1 => by
    obtain ⟨a1, a2⟩ := bgIn_eq (J := J) (w := w) (n := n) k
    unfold bgIn
    refine ⟨fun q h => ?_, fun a h => by rw [st2_k _ _ h]; exact a2 a h⟩
    by_cases e : q = k
    · rw [e, st2_s]
    · rw [st2_n _ _ (by omega)]; exact a1 q (by omega)
theorem bgOut_eq {J : SJ} {w : Nat} (hw : w < 4) : ∀ m, m ≤ 9 → (∀ n, n < m → bgOut J w m (35 + w) n = 0 ∧ bgOut J w m (39 + w) n = 0 ∧ ∀ o, o < 9 → bgOut J w m (47 + 9 * w + n) o = 0) ∧ fC w J (bgOut J w m)
  | 0, _ => ⟨fun n h => absurd h (Nat.not_lt_zero _), fC.rf⟩
  | m + 1, hm => by
    obtain ⟨a1, a2⟩ := bgOut_eq (J := J) hw m (by omega)
    obtain ⟨b1, b2⟩ := bgIn_eq (J := st2 (st2 (bgOut J w m) (35 + w) m 0) (39 + w) m 0) (w := w) (n := m) 9
    unfold bgOut
    refine ⟨fun n h => ⟨?_, ?_, fun o ho => ?_⟩, fun a p q r => ?_⟩
    · rw [b2 _ (by omega), st2_n _ _ (by omega)]
      by_cases e : n = m
      · rw [e, st2_s]
      · rw [st2_n _ _ (by omega)]; exact (a1 n (by omega)).1
    · rw [b2 _ (by omega)]
      by_cases e : n = m
      · rw [e, st2_s]
      · rw [st2_n _ _ (by omega), st2_n _ _ (by omega)]; exact (a1 n (by omega)).2.1
    · by_cases e : n = m
      · rw [e]; exact b1 o ho
      · rw [b2 _ (by omega), st2_n _ _ (by omega), st2_n _ _ (by omega)]; exact (a1 n (by omega)).2.2 o ho
    · rw [b2 _ (by omega), st2_k _ _ (by omega), st2_k _ _ (by omega)]; exact a2 a p q r
theorem bm1_eq {J : SJ} : ∀ k, ∀ q, q < k → bm1 J k 107 q = 0
  | 0, q, h => absurd h (Nat.not_lt_zero _)
  | k + 1, q, h => by
    unfold bm1
    by_cases e : q = k
    · rw [e, st2_s]
    · rw [st2_n _ _ (by omega)]; exact bm1_eq k q (by omega)
theorem bm2_eq {J : SJ} : ∀ k, (∀ q, q < k → bm2 J k 106 q = 0 ∧ bm2 J k 105 q = if q % 9 = q / 9 then 1000000 else 0) ∧ bm2 J k 107 = J 107
  | 0 => ⟨fun q h => absurd h (Nat.not_lt_zero _), rfl⟩
  | k + 1 => by
    obtain ⟨a1, a2⟩ := bm2_eq (J := J) k
    unfold bm2
    refine ⟨fun q h => ⟨?_, ?_⟩, by rw [st2_k _ _ (by omega), st2_k _ _ (by omega)]; exact a2⟩
    · rw [st2_n _ _ (by omega)]
      by_cases e : q = k
      · rw [e, st2_s]
      · rw [st2_n _ _ (by omega)]; exact (a1 q (by omega)).1
    · by_cases e : q = k
      · rw [e, st2_s]
      · rw [st2_n _ _ (by omega), st2_n _ _ (by omega)]; exact (a1 q (by omega)).2
theorem rel_begin {J J2 : SJ} {w : Nat} (hw : w < 4) : RelW w (beginJ J w) (beginM J2) ∧ fC w J (beginJ J w) := by
  obtain ⟨a1, a2⟩ := bgOut_eq (J := J) hw 9 (Nat.le_refl _)
  obtain ⟨b1, b2⟩ := bm2_eq (J := bm1 J2 324) 36
  have b3 := bm1_eq (J := J2) 324
  unfold beginJ beginM
  refine ⟨fun n hn => ⟨?_, ?_, fun o ho => ?_⟩, a2.tr (fC_J (by omega))⟩
  · rw [st2_n _ _ (by omega), (a1 n hn).1, (b1 _ (by omega)).1]
  · rw [(b1 _ (by omega)).2]
    by_cases e : n = w
    · rw [e, st2_s, if_pos (by omega)]
    · rw [st2_n _ _ (by omega), if_neg (by omega)]; exact (a1 n hn).2.1
  · rw [st2_n _ _ (by omega), (a1 n hn).2.2 o ho, congrFun b2 _, b3 _ (by omega)]
theorem rel_begins {I0 I1 I2 : SI} {J1 J2 : SJ} {F : Nat} (hW : W99 I0) (hF : NetFull I0 I1) (hR : RelN I0 I2) (hd : I1 0 5 = I2 102 2) (hb : I1 0 6 = I2 102 3)
    (hT : TermR (loF I0) F I2 (beginM J2)) : ∀ w, w ≤ 4 →
    sqInv I1 I2 w (sqB I0 F I1 J1 w) (sqR (loF I0) F I2 (beginM J2) w) ∧ (∀ x A, x < 4 → w ≤ x → RelW x A (beginM J2) → RelW x A (sqR (loF I0) F I2 (beginM J2) w).2) ∧
    (∀ x, x < w → runF (cnF I0) (nbF I0) x ((sqB I0 F I1 J1 x).1 0 5) ((sqB I0 F I1 J1 x).1 0 6) F (sqB I0 F I1 J1 x).1 (beginJ (sqB I0 F I1 J1 x).2 x) = some (sqB I0 F I1 J1 (x + 1)))
  | 0, _ => ⟨⟨fun _ _ _ => rfl, fun _ _ _ => rfl, ⟨0, (Int32.add_zero _).symm, (Int32.add_zero _).symm⟩, fun x hx => absurd hx (Nat.not_lt_zero _)⟩, fun x A _ _ q => q, fun x hx => absurd hx (Nat.not_lt_zero _)⟩
  | w + 1, hw => by
    obtain ⟨i1, i3, i4⟩ := rel_begins (J1 := J1) hW hF hR hd hb hT w (by omega)
    obtain ⟨s, hs⟩ := hT w (by omega)
    have hw4 : w < 4 := by omega
    obtain ⟨r1, r2⟩ := rel_begin (J := (sqB I0 F I1 J1 w).2) (J2 := J2) hw4
    obtain ⟨s', g1, g2, g3, g4⟩ := sq_step hW hF hR hd hb hw4 i1 (i3 w _ hw4 (Nat.le_refl _) r1) r2 hs
    have eC : sqB I0 F I1 J1 (w + 1) = s' := by
      conv => lhs; unfold sqB
      rw [g1]; rfl
    have eR : sqR (loF I0) F I2 (beginM J2) (w + 1) = s := by
      conv => lhs; unfold sqR
      rw [hs]; rfl
    rw [eR]
    refine ⟨by rw [eC]; exact g2, fun x A hx q z => ?_, fun x hx => ?_⟩
    · exact (i3 x A hx (by omega) z).fR hw4 hx (by omega) g4
    · by_cases e : x = w
      · subst e; rw [g1, eC]
      · exact i4 x (by omega)
/-- what the contracts ask for -/
theorem mend_ok {I0 I1 I2 : SI} {J1 J2 : SJ} {F : Nat} (hF9 : F ≤ 10000000) (hW : W99 I0) (hF : NetFull I0 I1) (hR : RelN I0 I2) (hd : I1 0 5 = I2 102 2) (hb : I1 0 6 = I2 102 3) (hrd : ∀ w, w < 4 → I1 (31 + w) 1 = nI w) (hJ : ∀ w, w < 4 → RelW w J1 J2)
    (hT : TermR (loF I0) F I2 (mdA I2 (loF I0) J2 4)) : MendOK (cnF I0) (nbF I0) (fun w => (sqC I0 F I1 J1 w).1) (fun w => (sqC I0 F I1 J1 w).2) ∧ SettOK (loF I0) (fun v => (sqR (loF I0) F I2 (mdA I2 (loF I0) J2 4) v).1) (fun v => (sqR (loF I0) F I2 (mdA I2 (loF I0) J2 4) v).2) := by
  refine ⟨fun w hw => ?_, fun v hv => ?_⟩
  · obtain ⟨i1, -, -, -⟩ := rel_mends hW hF hR hd hb hJ hT w (by omega)
    obtain ⟨-, -, -, i4⟩ := rel_mends hW hF hR hd hb hJ hT (w + 1) (by omega)
    exact ⟨net_ok (full_far hF (fun x y q => i1.1 x y (Or.inl q))), (i1.1 _ _ (by omega)).trans (hrd w hw), F, hF9, i4 w (Nat.lt_succ_self w)⟩
  · obtain ⟨i1, -, -, -⟩ := rel_mends hW hF hR hd hb hJ hT v (by omega)
    obtain ⟨s, hs⟩ := hT v hv
    refine ⟨ref_ok (relN_far hR (fun x y q => i1.2.1 x y (fun z => q z.1))) hW, F, ?_⟩
    have eR : sqR (loF I0) F I2 (mdA I2 (loF I0) J2 4) (v + 1) = s := by
      conv => lhs; unfold sqR
      rw [hs]; rfl
    simp only [eR]
    exact hs
theorem begin_ok {I0 I1 I2 : SI} {J1 J2 : SJ} {F : Nat} (hF9 : F ≤ 10000000) (hW : W99 I0) (hF : NetFull I0 I1) (hR : RelN I0 I2) (hd : I1 0 5 = I2 102 2) (hb : I1 0 6 = I2 102 3) (hrd : ∀ w, w < 4 → I1 (31 + w) 1 = nI w)
    (hT : TermR (loF I0) F I2 (beginM J2)) : BeginOK (cnF I0) (nbF I0) (fun w => (sqB I0 F I1 J1 w).1) (fun w => (sqB I0 F I1 J1 w).2) ∧ SettOK (loF I0) (fun v => (sqR (loF I0) F I2 (beginM J2) v).1) (fun v => (sqR (loF I0) F I2 (beginM J2) v).2) := by
  refine ⟨fun w hw => ?_, fun v hv => ?_⟩
  · obtain ⟨i1, -, -⟩ := rel_begins (J1 := J1) hW hF hR hd hb hT w (by omega)
    obtain ⟨-, -, i4⟩ := rel_begins (J1 := J1) hW hF hR hd hb hT (w + 1) (by omega)
    exact ⟨net_ok (full_far hF (fun x y q => i1.1 x y (Or.inl q))), (i1.1 _ _ (by omega)).trans (hrd w hw), F, hF9, i4 w (Nat.lt_succ_self w)⟩
  · obtain ⟨i1, -, -⟩ := rel_begins (J1 := J1) hW hF hR hd hb hT v (by omega)
    obtain ⟨s, hs⟩ := hT v hv
    refine ⟨ref_ok (relN_far hR (fun x y q => i1.2.1 x y (fun z => q z.1))) hW, F, ?_⟩
    have eR : sqR (loF I0) F I2 (beginM J2) (v + 1) = s := by
      conv => lhs; unfold sqR
      rw [hs]; rfl
    simp only [eR]
    exact hs
