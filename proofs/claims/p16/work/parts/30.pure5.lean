/-! sending: the class's -/
/-- parts of the neighbours 1 to j -/
def pC (I0 : SI) (n : Nat) (u : Int64) : Nat → Int64
  | 0 => 0
  | j + 1 => ptW (wM I0 n) (sM I0 n 9) u (nbF I0 n (j + 1)) + pC I0 n u j
def gC (I0 : SI) (n : Nat) (u : Int64) (j p : Nat) : Int64 := if 0 < wM I0 n p ∧ 1 ≤ cN I0 n p ∧ cN I0 n p ≤ j then ptW (wM I0 n) (sM I0 n 9) u p else 0
theorem gC_0 {I0 : SI} {n p : Nat} {u : Int64} : gC I0 n u 0 p = 0 := by unfold gC; rw [if_neg (by omega)]
theorem giveJ_r {J : SJ} {w n o p : Nat} {u : Int64} (hw : w < 4) (hn : n < 9) : giveJ J w n o u (39 + w) p = J (39 + w) p + (if p = o then u else 0) := by
  unfold giveJ
  rw [st2_n _ _ (by omega)]
  by_cases e : p = o
  · rw [e, st2_s, if_pos rfl]
  · rw [st2_n _ _ (by omega), if_neg e, l_zero]
theorem giveJ_s {J : SJ} {w n o p : Nat} {u : Int64} (hw : w < 4) (hn : n < 9) : giveJ J w n o u (47 + 9 * w + n) p = J (47 + 9 * w + n) p + (if p = o then u else 0) := by
  unfold giveJ
  by_cases e : p = o
  · rw [e, st2_s, st2_n _ _ (by omega), if_pos rfl]
  · rw [st2_n _ _ (by omega), st2_n _ _ (by omega), if_neg e, l_zero]
theorem giveJ_o {J : SJ} {w n o a : Nat} {u : Int64} (h1 : a ≠ 39 + w) (h2 : a ≠ 47 + 9 * w + n) : giveJ J w n o u a = J a := by
  unfold giveJ
  rw [st2_k _ _ h2, st2_k _ _ h1]
theorem pt_c {I0 I : SI} (hF : NetFull I0 I) {n k : Nat} {u : Int64} (hn : n < 9) (hk : k < cN I0 n 9) : ptF I (nbF I0) n u k = ptW (wM I0 n) (sM I0 n 9) u (nbF I0 n k) := by
  obtain ⟨g1, g2, g3, g4⟩ := hF n hn
  obtain ⟨a, b, c⟩ := nbS_ok 9 hk
  unfold ptF ptW
  rw [g1 (nbF I0 n k) a, g4]
theorem sendL_eq {I0 I : SI} (hF : NetFull I0 I) {J : SJ} {w n : Nat} {u : Int64} (hw : w < 4) (hn : n < 9) : ∀ j, j < cN I0 n 9 →
    (sendL I (nbF I0) J w n u j).1 + pC I0 n u j = u ∧
    (∀ p, p < 9 → (sendL I (nbF I0) J w n u j).2 (39 + w) p = J (39 + w) p + gC I0 n u j p) ∧
    (∀ p, p < 9 → (sendL I (nbF I0) J w n u j).2 (47 + 9 * w + n) p = J (47 + 9 * w + n) p + gC I0 n u j p) ∧
    (∀ a, a ≠ 39 + w → a ≠ 47 + 9 * w + n → (sendL I (nbF I0) J w n u j).2 a = J a)
  | 0, _ => ⟨l_zero u, fun p _ => by rw [gC_0, l_zero]; rfl, fun p _ => by rw [gC_0, l_zero]; rfl, fun a _ _ => rfl⟩
  | j + 1, hj => by
    obtain ⟨a1, a2, a3, a4⟩ := sendL_eq hF (J := J) (u := u) hw hn j (by omega)
    obtain ⟨b1, b2, b3⟩ := nbS_ok 9 hj
    have eP := pt_c hF (u := u) hn hj
    have step : ∀ p, p < 9 → gC I0 n u j p + (if p = nbF I0 n (j + 1) then ptF I (nbF I0) n u (j + 1) else 0) = gC I0 n u (j + 1) p := fun p hp => by
      unfold gC
      by_cases e : p = nbF I0 n (j + 1)
      · have c1 : cN I0 n p = j + 1 := by rw [e]; exact b3
        have c2 : 0 < wM I0 n p := by rw [e]; exact b2
        rw [if_neg (by omega), if_pos e, if_pos ⟨c2, by omega, by omega⟩, Int64.zero_add, eP, e]
      · rw [if_neg e, l_zero]
        by_cases g : 0 < wM I0 n p ∧ 1 ≤ cN I0 n p ∧ cN I0 n p ≤ j
        · rw [if_pos g, if_pos ⟨g.1, g.2.1, by omega⟩]
        · rw [if_neg g, if_neg (fun z => by
            by_cases q : cN I0 n p = j + 1
            · exact e (by rw [← q]; exact (nb_of hp z.1).symm)
            · exact g ⟨z.1, z.2.1, by omega⟩)]
    unfold sendL
    refine ⟨?_, fun p hp => ?_, fun p hp => ?_, fun a h1 h2 => ?_⟩
    · show (sendL I (nbF I0) J w n u j).1 - ptF I (nbF I0) n u (j + 1) + (ptW (wM I0 n) (sM I0 n 9) u (nbF I0 n (j + 1)) + pC I0 n u j) = u
      rw [eP]
      generalize ptW (wM I0 n) (sM I0 n 9) u (nbF I0 n (j + 1)) = y
      generalize (sendL I (nbF I0) J w n u j).1 = x at a1
      generalize pC I0 n u j = z at a1 ⊢
      grind
    · dsimp only
      rw [giveJ_r hw hn, a2 p hp, Int64.add_assoc, step p hp]
    · dsimp only
      rw [giveJ_s hw hn, a3 p hp, Int64.add_assoc, step p hp]
    · dsimp only
      rw [giveJ_o h1 h2, a4 a h1 h2]
/-- the class's gift to p -/
def gS (I0 : SI) (w n : Nat) (u : Int64) (p : Nat) : Int64 :=
  if cN I0 n 9 = 0 then (if p = w then u else 0) else gC I0 n u (cN I0 n 9 - 1) p + (if p = nbF I0 n 0 then u - pC I0 n u (cN I0 n 9 - 1) else 0)
theorem l_left {a b u : Int64} (h : a + b = u) : a = u - b := by grind
theorem sendJ_eq {I0 I : SI} (hF : NetFull I0 I) (hW : W99 I0) {J : SJ} {w n : Nat} {u : Int64} (hw : w < 4) (hn : n < 9) :
    (∀ p, p < 9 → sendJ I (fun n => cN I0 n 9) (nbF I0) J w n u (39 + w) p = J (39 + w) p + gS I0 w n u p) ∧
    (∀ p, p < 9 → sendJ I (fun n => cN I0 n 9) (nbF I0) J w n u (47 + 9 * w + n) p = J (47 + 9 * w + n) p + gS I0 w n u p) ∧
    (∀ a, a ≠ 39 + w → a ≠ 47 + 9 * w + n → sendJ I (fun n => cN I0 n 9) (nbF I0) J w n u a = J a) := by
  obtain ⟨g1, g2, g3, g4⟩ := hF n hn
  unfold sendJ gS
  by_cases c0 : cN I0 n 9 = 0
  · rw [if_pos (Or.inl c0)]
    simp only [if_pos c0]
    exact ⟨fun p hp => giveJ_r hw hn, fun p hp => giveJ_s hw hn, fun a h1 h2 => giveJ_o h1 h2⟩
  · have c9 : ¬ (cN I0 n 9 = 0 ∨ I 29 n = 0) := fun z => z.elim c0 (fun z => c0 ((s9_ne hW hn).mp (by rw [← g4]; exact z)))
    rw [if_neg c9]
    simp only [if_neg c0]
    obtain ⟨a1, a2, a3, a4⟩ := sendL_eq hF (J := J) (u := u) hw hn (cN I0 n 9 - 1) (by omega)
    refine ⟨fun p hp => ?_, fun p hp => ?_, fun a h1 h2 => ?_⟩
    · rw [giveJ_r hw hn, a2 p hp, Int64.add_assoc, l_left a1]
    · rw [giveJ_s hw hn, a3 p hp, Int64.add_assoc, l_left a1]
    · rw [giveJ_o h1 h2, a4 a h1 h2]
theorem qW_c {I0 : SI} {n : Nat} {u : Int64} : ∀ m, m ≤ 9 → qW (wM I0 n) (sM I0 n 9) u m = if cN I0 n m = 0 then 0 else ptW (wM I0 n) (sM I0 n 9) u (nbF I0 n 0) + pC I0 n u (cN I0 n m - 1)
  | 0, _ => by rw [if_pos (show cN I0 n 0 = 0 from rfl)]; rfl
  | m + 1, hm => by
    have ih := qW_c (I0 := I0) (n := n) (u := u) m (by omega)
    unfold qW
    by_cases p : 0 < wM I0 n m
    · have e := nb_of (by omega : m < 9) p
      rw [if_pos p, cN_s p, if_neg (by omega), ih]
      by_cases q : cN I0 n m = 0
      · rw [q] at e ⊢
        rw [if_pos rfl, e]
        rfl
      · rw [if_neg q]
        obtain ⟨k, hk⟩ : ∃ k, cN I0 n m = k + 1 := ⟨cN I0 n m - 1, by omega⟩
        rw [hk] at e ⊢
        show _ = _ + (ptW (wM I0 n) (sM I0 n 9) u (nbF I0 n (k + 1)) + pC I0 n u k)
        rw [e]
        show _ + (_ + pC I0 n u k) = _
        generalize ptW (wM I0 n) (sM I0 n 9) u m = y
        generalize ptW (wM I0 n) (sM I0 n 9) u (nbF I0 n 0) = x
        generalize pC I0 n u k = z
        grind
    · rw [if_neg p, cN_z p, ih, Int64.zero_add]
theorem qW_congr {W W' : Nat → Int32} {T : Int32} {u : Int64} : ∀ m, (∀ o, o < m → W o = W' o) → qW W T u m = qW W' T u m
  | 0, _ => rfl
  | m + 1, h => by
    unfold qW ptW
    rw [h m (Nat.lt_succ_self m), qW_congr m (fun o ho => h o (by omega))]
theorem l_one (u : Int64) : u * (1 : Int32).toInt64 / (1 : Int32).toInt64 = u := by
  rw [show (1 : Int32).toInt64 = 1 from rfl, Int64.mul_one, Int64.div_one]
theorem qW_one {v : Nat} {u : Int64} : ∀ m, qW (fun p => if p = v then 1 else 0) 1 u m = if v < m then u else 0
  | 0 => by rw [if_neg (Nat.not_lt_zero _)]; rfl
  | m + 1 => by
    unfold qW ptW
    rw [qW_one m]
    dsimp only
    by_cases e : m = v
    · subst e
      rw [if_pos rfl, if_pos (by decide), if_neg (Nat.lt_irrefl _), if_pos (Nat.lt_succ_self _), l_one, l_zero]
    · rw [if_neg e, if_neg (by decide), Int64.zero_add]
      by_cases q : v < m
      · rw [if_pos q, if_pos (by omega)]
      · rw [if_neg q, if_neg (by omega)]
theorem from_z {I0 I2 : SI} (hR : RelN I0 I2) (hW : W99 I0) {v n : Nat} (hn : n < 9) (h : cN I0 n 9 = 0) : fromM I2 v n = (fun p => if p = v then 1 else 0) ∧ suM I2 n = 1 := by
  have hp : ¬ 0 < allM I2 n := by rw [all_s hR hn]; exact fun z => by have := (s9_pos hW hn).mp z; omega
  exact ⟨funext fun p => by unfold fromM; rw [if_neg hp], by unfold suM; rw [if_neg hp]⟩
theorem from_w {I0 I2 : SI} (hR : RelN I0 I2) (hW : W99 I0) {v n : Nat} (hn : n < 9) (h : ¬ cN I0 n 9 = 0) : (∀ p, p < 9 → fromM I2 v n p = wM I0 n p) ∧ suM I2 n = sM I0 n 9 := by
  have hp : 0 < allM I2 n := by rw [all_s hR hn]; exact (s9_pos hW hn).mpr (by omega)
  exact ⟨fun p q => by unfold fromM; rw [if_pos hp, lo_w hR hn q], by unfold suM; rw [if_pos hp, all_s hR hn]⟩
theorem gift_eq {I0 I2 : SI} (hR : RelN I0 I2) (hW : W99 I0) {v n p : Nat} {u : Int64} (hv : v < 4) (hn : n < 9) (hp : p < 9) : gS I0 v n u p = gM I2 v n u (loF I0 v n) p := by
  unfold gS gM loF
  by_cases c0 : cN I0 n 9 = 0
  · obtain ⟨e1, e2⟩ := from_z hR hW (v := v) hn c0
    rw [if_pos c0, if_neg (by omega : ¬ 0 < cN I0 n 9), e1, e2, qW_one, if_pos (by omega : v < 9)]
    unfold gW ptW
    dsimp only
    by_cases e : p = v
    · rw [if_pos e, if_pos ⟨hp, by rw [if_pos e]; decide⟩, if_pos e, if_pos e, l_one, Int64.sub_self, l_zero]
    · rw [if_neg e, if_neg (fun z => by have z2 := z.2; rw [if_neg e] at z2; exact absurd z2 (by decide)), if_neg e, l_zero]
  · obtain ⟨e1, e2⟩ := from_w hR hW (v := v) hn c0
    rw [if_neg c0, if_pos (by omega : 0 < cN I0 n 9), e2, qW_congr (W' := wM I0 n) 9 e1, qW_c 9 (Nat.le_refl _), if_neg c0]
    have hlo := nbS_ok 9 (by omega : 0 < cN I0 n 9)
    unfold gC gW
    rw [e1 p hp, show ptW (fromM I2 v n) (sM I0 n 9) u p = ptW (wM I0 n) (sM I0 n 9) u p from by unfold ptW; rw [e1 p hp]]
    by_cases e : p = nbF I0 n 0
    · have c1 : cN I0 n p = 0 := by rw [e]; exact hlo.2.2
      have c2 : 0 < wM I0 n p := by rw [e]; exact hlo.2.1
      rw [if_neg (by omega), if_pos e, if_pos ⟨hp, c2⟩, if_pos e, ← e]
      generalize ptW (wM I0 n) (sM I0 n 9) u p = x
      generalize pC I0 n u (cN I0 n 9 - 1) = z
      grind
    · rw [if_neg e, if_neg e]
      by_cases g : 0 < wM I0 n p
      · have c1 : cN I0 n p ≠ 0 := fun z => e (by rw [← z]; exact (nb_of hp g).symm)
        have c2 := cN_lt g hp
        rw [if_pos ⟨g, by omega, by omega⟩, if_pos ⟨hp, g⟩]
      · rw [if_neg (fun z => g z.1), if_neg (fun z => g z.2)]
