/-! the class's elimination and the reference's, each told by one matrix -/
def RC (X : SX) (M : Nat → Nat → UInt64) (b x : Nat → UInt64) : Prop := (∀ i j, i < 9 → j < 9 → X (89 + i) j = M i j) ∧ (∀ i, i < 9 → X 98 i = b i) ∧ ∀ i, i < 9 → X 99 i = x i
def RR (X : SX) (M : Nat → Nat → UInt64) (b x : Nat → UInt64) : Prop := (∀ i j, i < 9 → j < 9 → X 108 (9 * i + j) = M i j) ∧ (∀ i, i < 9 → X 109 i = b i) ∧ ∀ i, i < 9 → X 110 i = x i
def seqM (M : Nat → Nat → UInt64) : Nat → Nat → Nat → UInt64
  | 0 => M
  | k + 1 => elM (seqM M k) k
def seqB (M : Nat → Nat → UInt64) (b : Nat → UInt64) : Nat → Nat → UInt64
  | 0 => b
  | k + 1 => elB (seqM M k) (seqB M b k) k
def bsM (M : Nat → Nat → UInt64) (b x : Nat → UInt64) (i : Nat) : Nat → UInt64
  | 0 => b i
  | j + 1 => if j ≤ i then bsM M b x i j else ms (bsM M b x i j) (M i j) (x j)
def xS (M : Nat → Nat → UInt64) (b x : Nat → UInt64) : Nat → Nat → UInt64
  | 0 => x
  | t + 1 => fun i => if i = 8 - t then FP.ddiv (bsM M b (xS M b x t) (8 - t) 9) (M (8 - t) (8 - t)) else xS M b x t i
/-- outside of the class's own cells -/
def oC (X Y : SX) : Prop := ∀ a, a < 89 ∨ 100 ≤ a → Y a = X a
def oR (X Y : SX) : Prop := ∀ a, a ≠ 108 → a ≠ 109 → a ≠ 110 → Y a = X a
theorem oC.tr {A B D : SX} (h : oC A B) (g : oC B D) : oC A D := fun a q => (g a q).trans (h a q)
theorem oR.tr {A B D : SX} (h : oR A B) (g : oR B D) : oR A D := fun a p q r => (g a p q r).trans (h a p q r)
section ClassE
variable {X : SX} {M : Nat → Nat → UInt64} {b x : Nat → UInt64}
theorem flJ_eq {I : SI} {r i : Nat} {dm : UInt64} : ∀ j, (∀ q, flJ I r dm i X j (89 + i) q = if q < j then flM I r dm i q else X (89 + i) q) ∧ ∀ a, a ≠ 89 + i → flJ I r dm i X j a = X a
  | 0 => ⟨fun q => by rw [if_neg (Nat.not_lt_zero _)]; rfl, fun _ _ => rfl⟩
  | j + 1 => by
    obtain ⟨a1, a2⟩ := flJ_eq (I := I) (r := r) (i := i) (dm := dm) j
    unfold flJ
    refine ⟨fun q => ?_, fun a h => by rw [st2_k _ _ h]; exact a2 a h⟩
    rw [st2_if]
    by_cases e : q = j
    · rw [if_pos e, if_pos (by omega), e]
      rfl
    · rw [if_neg e, a1 q]
      by_cases z : q < j
      · rw [if_pos z, if_pos (by omega)]
      · rw [if_neg z, if_neg (by omega)]
theorem flO_eq {I : SI} {r : Nat} {dm : UInt64} : ∀ i, i ≤ 9 → (∀ p j, p < i → j < 9 → flO I r dm X i (89 + p) j = flM I r dm p j) ∧ (∀ p, p < i → flO I r dm X i 98 p = rtF r dm p) ∧ flO I r dm X i 99 = X 99 ∧ oC X (flO I r dm X i)
  | 0, _ => ⟨fun p j h _ => absurd h (Nat.not_lt_zero _), fun p h => absurd h (Nat.not_lt_zero _), rfl, fun _ _ => rfl⟩
  | i + 1, hi => by
    obtain ⟨h1, h2, h3, h4⟩ := flO_eq (I := I) (r := r) (dm := dm) i (by omega)
    obtain ⟨a1, a2⟩ := flJ_eq (X := flO I r dm X i) (I := I) (r := r) (i := i) (dm := dm) 9
    unfold flO
    refine ⟨fun p j hp hj => ?_, fun p hp => ?_, ?_, fun a q => ?_⟩
    · rw [st2_k _ _ (by omega)]
      by_cases e : p = i
      · rw [e, a1 j, if_pos hj]
      · rw [a2 _ (by omega)]
        exact h1 p j (by omega) hj
    · rw [st2_if]
      by_cases e : p = i
      · rw [if_pos e, e]
      · rw [if_neg e, a2 _ (by omega)]
        exact h2 p (by omega)
    · rw [st2_k _ _ (by omega), a2 _ (by omega)]
      exact h3
    · rw [st2_k _ _ (by omega), a2 _ (by omega)]
      exact h4 a q
theorem elJ_eq {k i : Nat} {f : UInt64} (hik : i ≠ k) : ∀ j, (∀ q, elJ X k i f j (89 + i) q = if k ≤ q ∧ q < j then ms (X (89 + i) q) f (X (89 + k) q) else X (89 + i) q) ∧ ∀ a, a ≠ 89 + i → elJ X k i f j a = X a
  | 0 => ⟨fun q => by rw [if_neg (fun z => absurd z.2 (Nat.not_lt_zero _))]; rfl, fun _ _ => rfl⟩
  | j + 1 => by
    obtain ⟨a1, a2⟩ := elJ_eq (f := f) hik j
    unfold elJ
    by_cases z : j < k
    · rw [if_pos z]
      refine ⟨fun q => ?_, a2⟩
      rw [a1 q]
      by_cases y : k ≤ q ∧ q < j
      · rw [if_pos y, if_pos ⟨y.1, by omega⟩]
      · rw [if_neg y, if_neg (fun w => y ⟨w.1, by omega⟩)]
    · rw [if_neg z]
      have r1 : elJ X k i f j (89 + i) j = X (89 + i) j := by rw [a1 j, if_neg (fun w => Nat.lt_irrefl _ w.2)]
      have r2 : elJ X k i f j (89 + k) j = X (89 + k) j := congrFun (a2 (89 + k) (by omega)) j
      rw [r1, r2]
      refine ⟨fun q => ?_, fun a h => by rw [st2_k _ _ h]; exact a2 a h⟩
      rw [st2_if]
      by_cases e : q = j
      · rw [if_pos e, if_pos ⟨by omega, by omega⟩, e]
      · rw [if_neg e, a1 q]
        by_cases y : k ≤ q ∧ q < j
        · rw [if_pos y, if_pos ⟨y.1, by omega⟩]
        · rw [if_neg y, if_neg (fun w => y ⟨w.1, by omega⟩)]
/-- m rows of a column done -/
theorem elI_eq {k : Nat} (hk : k < 9) (h : RC X M b x) : ∀ m, m ≤ 9 → RC (elI X k m) (fun i j => if i < m then elM M k i j else M i j) (fun i => if i < m then elB M b k i else b i) x ∧ oC X (elI X k m)
  | 0, _ => ⟨h, fun _ _ => rfl⟩
  | m + 1, hm => by
    obtain ⟨⟨h1, h2, h3⟩, h4⟩ := elI_eq hk h m (by omega)
    unfold elI
    by_cases z : m ≤ k
    · rw [if_pos z]
      refine ⟨⟨fun i j hi hj => ?_, fun i hi => ?_, h3⟩, h4⟩
      · rw [h1 i j hi hj]
        dsimp only
        by_cases e : i = m
        · rw [if_neg (by omega), if_pos (by omega)]
          unfold elM
          rw [if_neg (fun w => by omega)]
        · by_cases q : i < m
          · rw [if_pos q, if_pos (by omega)]
          · rw [if_neg q, if_neg (by omega)]
      · rw [h2 i hi]
        dsimp only
        by_cases e : i = m
        · rw [if_neg (by omega), if_pos (by omega)]
          unfold elB
          rw [if_neg (fun w => by omega)]
        · by_cases q : i < m
          · rw [if_pos q, if_pos (by omega)]
          · rw [if_neg q, if_neg (by omega)]
    · rw [if_neg z]
      have rk : ∀ j, j < 9 → elI X k m (89 + k) j = M k j := fun j hj => by
        rw [h1 k j hk hj]
        dsimp only
        rw [if_pos (by omega)]
        unfold elM
        rw [if_neg (fun w => by omega)]
      have ri : ∀ j, j < 9 → elI X k m (89 + m) j = M m j := fun j hj => by
        rw [h1 m j (by omega) hj]
        dsimp only
        rw [if_neg (Nat.lt_irrefl _)]
      have bk : elI X k m 98 k = b k := by
        rw [h2 k hk]
        dsimp only
        rw [if_pos (by omega)]
        unfold elB
        rw [if_neg (Nat.lt_irrefl _)]
      have bi : elI X k m 98 m = b m := by
        rw [h2 m (by omega)]
        dsimp only
        rw [if_neg (Nat.lt_irrefl _)]
      have ef : elf (elI X k m) k m = mlt M k m := by
        unfold elf mlt
        rw [ri k hk, rk k hk]
      obtain ⟨a1, a2⟩ := elJ_eq (X := elI X k m) (f := elf (elI X k m) k m) (i := m) (k := k) (by omega) 9
      unfold elS
      refine ⟨⟨fun i j hi hj => ?_, fun i hi => ?_, fun i hi => ?_⟩, fun a q => ?_⟩
      · rw [st2_k _ _ (by omega)]
        dsimp only
        by_cases e : i = m
        · rw [e, a1 j, if_pos (Nat.lt_succ_self m), ri j hj, rk j hj, ef]
          unfold elM
          by_cases y : k ≤ j
          · rw [if_pos ⟨y, hj⟩, if_pos ⟨by omega, y⟩]
          · rw [if_neg (fun w => y w.1), if_neg (fun w => y w.2)]
        · rw [a2 _ (by omega), h1 i j hi hj]
          dsimp only
          by_cases q : i < m
          · rw [if_pos q, if_pos (by omega)]
          · rw [if_neg q, if_neg (by omega)]
      · rw [st2_if]
        dsimp only
        by_cases e : i = m
        · rw [if_pos e, e, if_pos (Nat.lt_succ_self m), a2 98 (by omega), bi, bk, ef]
          unfold elB
          rw [if_pos (by omega)]
        · rw [if_neg e, a2 _ (by omega), h2 i hi]
          dsimp only
          by_cases q : i < m
          · rw [if_pos q, if_pos (by omega)]
          · rw [if_neg q, if_neg (by omega)]
      · rw [st2_k _ _ (by omega), a2 _ (by omega)]
        exact h3 i hi
      · rw [st2_k _ _ (by omega), a2 _ (by omega)]
        exact h4 a q
/-- what one row's step asks for -/
def okE (M : Nat → Nat → UInt64) (b : Nat → UInt64) (k i : Nat) : Prop := dvOK (M i k) (M k k) ∧ (∀ j, k ≤ j → j < 9 → msOK (M i j) (mlt M k i) (M k j)) ∧ msOK (b i) (mlt M k i) (b k)
theorem EsOK_of {k i : Nat} (hk : k < 9) (hki : k < i) (hi : i < 9) (h : RC X M b x) (hE : okE M b k i) : EsOK (elI X k i) k i := by
  obtain ⟨⟨h1, h2, h3⟩, -⟩ := elI_eq hk h i (by omega)
  have rk : ∀ j, j < 9 → elI X k i (89 + k) j = M k j := fun j hj => by
    rw [h1 k j hk hj]
    dsimp only
    rw [if_pos hki]
    unfold elM
    rw [if_neg (fun w => by omega)]
  have ri : ∀ j, j < 9 → elI X k i (89 + i) j = M i j := fun j hj => by
    rw [h1 i j hi hj]
    dsimp only
    rw [if_neg (Nat.lt_irrefl _)]
  have bk : elI X k i 98 k = b k := by
    rw [h2 k hk]
    dsimp only
    rw [if_pos hki]
    unfold elB
    rw [if_neg (Nat.lt_irrefl _)]
  have bi : elI X k i 98 i = b i := by
    rw [h2 i hi]
    dsimp only
    rw [if_neg (Nat.lt_irrefl _)]
  have ef : elf (elI X k i) k i = mlt M k i := by
    unfold elf mlt
    rw [ri k hk, rk k hk]
  obtain ⟨e1, e2, e3⟩ := hE
  refine ⟨by rw [ri k hk, rk k hk]; exact e1, fun j q1 q2 => ?_, ?_⟩
  · obtain ⟨a1, a2⟩ := elJ_eq (X := elI X k i) (f := elf (elI X k i) k i) (i := i) (k := k) (by omega) j
    rw [a1 j, if_neg (fun w => Nat.lt_irrefl _ w.2), a2 _ (by omega), ri j q2, rk j q2, ef]
    exact e2 j q1 q2
  · obtain ⟨a1, a2⟩ := elJ_eq (X := elI X k i) (f := elf (elI X k i) k i) (i := i) (k := k) (by omega) 9
    rw [a2 98 (by omega), bi, bk, ef]
    exact e3
theorem RC_congr {M' : Nat → Nat → UInt64} {b' : Nat → UInt64} (h : RC X M b x) (e1 : ∀ i j, i < 9 → j < 9 → M i j = M' i j) (e2 : ∀ i, i < 9 → b i = b' i) : RC X M' b' x := ⟨fun i j hi hj => (h.1 i j hi hj).trans (e1 i j hi hj), fun i hi => (h.2.1 i hi).trans (e2 i hi), h.2.2⟩
theorem soK_eq (h : RC X M b x) : ∀ k, k ≤ 9 → RC (soK X k) (seqM M k) (seqB M b k) x ∧ oC X (soK X k)
  | 0, _ => ⟨h, fun _ _ => rfl⟩
  | k + 1, hk => by
    obtain ⟨a, a2⟩ := soK_eq h k (by omega)
    obtain ⟨c, c2⟩ := elI_eq (by omega : k < 9) a 9 (Nat.le_refl _)
    unfold soK seqM seqB
    exact ⟨RC_congr c (fun i j hi hj => if_pos hi) (fun i hi => if_pos hi), a2.tr c2⟩
theorem srJ_eq {i : Nat} (hi : i < 9) (h : RC X M b x) : ∀ j, j ≤ 9 → srJ X i j = bsM M b x i j
  | 0, _ => h.2.1 i hi
  | j + 1, hj => by
    have ih := srJ_eq hi h j (by omega)
    unfold srJ bsM
    rw [ih, h.1 i j hi (by omega), h.2.2 j (by omega)]
theorem soR_eq (h : RC X M b x) : ∀ t, t ≤ 9 → RC (soR X t) M b (xS M b x t) ∧ oC X (soR X t)
  | 0, _ => ⟨h, fun _ _ => rfl⟩
  | t + 1, ht => by
    obtain ⟨⟨a1, a2, a3⟩, a4⟩ := soR_eq h t (by omega)
    have sr := srJ_eq (i := 8 - t) (by omega) (show RC (soR X t) M b (xS M b x t) from ⟨a1, a2, a3⟩) 9 (Nat.le_refl _)
    unfold soR srS xS
    refine ⟨⟨fun i j hi hj => by rw [st2_k _ _ (by omega)]; exact a1 i j hi hj, fun i hi => by rw [st2_k _ _ (by omega)]; exact a2 i hi, fun i hi => ?_⟩, fun a q => by rw [st2_k _ _ (by omega)]; exact a4 a q⟩
    rw [st2_if, sr, a1 (8 - t) (8 - t) (by omega) (by omega)]
    dsimp only
    by_cases e : i = 8 - t
    · rw [if_pos e, if_pos e]
    · rw [if_neg e, if_neg e]
      exact a3 i hi
def okS (M : Nat → Nat → UInt64) (b x : Nat → UInt64) (i : Nat) : Prop := (∀ j, i < j → j < 9 → msOK (bsM M b x i j) (M i j) (x j)) ∧ dvOK (bsM M b x i 9) (M i i)
/-- the class's side asks for no more -/
theorem SoOK_of (h : RC X M b x) (h1 : ∀ k i, k < i → i < 9 → okE (seqM M k) (seqB M b k) k i) (h2 : ∀ t, t < 9 → okS (seqM M 9) (seqB M b 9) (xS (seqM M 9) (seqB M b 9) x t) (8 - t)) : SoOK X := by
  refine ⟨fun k hk i hki hi => EsOK_of hk hki hi (soK_eq h k (by omega)).1 (h1 k i hki hi), fun t ht => ?_⟩
  have g := (soR_eq (soK_eq h 9 (Nat.le_refl _)).1 t (by omega)).1
  obtain ⟨s1, s2⟩ := h2 t ht
  refine ⟨fun j q1 q2 => ?_, ?_⟩
  · rw [srJ_eq (by omega) g j (by omega), g.1 _ _ (by omega) q2, g.2.2 j q2]
    exact s1 j q1 q2
  · rw [srJ_eq (by omega) g 9 (Nat.le_refl _), g.1 _ _ (by omega) (by omega)]
    exact s2
end ClassE
section RefE
variable {X : SX} {M : Nat → Nat → UInt64} {b x : Nat → UInt64}
def mfM (I : SI) (r : Nat) (dm : UInt64) (i j : Nat) : UInt64 := FP.dsub (dgF i j) (ptM I r dm i j)
theorem mfJ_eq {I : SI} {r i : Nat} {dm : UInt64} : ∀ j, j ≤ 9 → (∀ q, mfJ I r dm i X j 108 q = if 9 * i ≤ q ∧ q < 9 * i + j then mfM I r dm i (q - 9 * i) else X 108 q) ∧ ∀ a, a ≠ 108 → mfJ I r dm i X j a = X a
  | 0, _ => ⟨fun q => by rw [if_neg (by omega)]; rfl, fun _ _ => rfl⟩
  | j + 1, hj => by
    obtain ⟨a1, a2⟩ := mfJ_eq (I := I) (r := r) (i := i) (dm := dm) j (by omega)
    unfold mfJ
    refine ⟨fun q => ?_, fun a h => by rw [st2_k _ _ h]; exact a2 a h⟩
    rw [st2_if]
    by_cases e : q = 9 * i + j
    · rw [if_pos e, if_pos (by omega), e, Nat.add_sub_cancel_left]
      rfl
    · rw [if_neg e, a1 q]
      by_cases z : 9 * i ≤ q ∧ q < 9 * i + j
      · rw [if_pos z, if_pos (by omega)]
      · rw [if_neg z, if_neg (by omega)]
theorem mfO_eq {I : SI} {r : Nat} {dm : UInt64} : ∀ i, i ≤ 9 → (∀ p j, p < i → j < 9 → mfO I r dm X i 108 (9 * p + j) = mfM I r dm p j) ∧ (∀ p, p < i → mfO I r dm X i 109 p = rtF r dm p) ∧ mfO I r dm X i 110 = X 110 ∧ oR X (mfO I r dm X i)
  | 0, _ => ⟨fun p j h _ => absurd h (Nat.not_lt_zero _), fun p h => absurd h (Nat.not_lt_zero _), rfl, fun _ _ _ _ => rfl⟩
  | i + 1, hi => by
    obtain ⟨h1, h2, h3, h4⟩ := mfO_eq (I := I) (r := r) (dm := dm) i (by omega)
    obtain ⟨a1, a2⟩ := mfJ_eq (X := mfO I r dm X i) (I := I) (r := r) (i := i) (dm := dm) 9 (Nat.le_refl _)
    unfold mfO
    refine ⟨fun p j hp hj => ?_, fun p hp => ?_, ?_, fun a q1 q2 q3 => ?_⟩
    · rw [st2_k _ _ (by omega), a1]
      by_cases e : p = i
      · rw [e, if_pos (by omega), Nat.add_sub_cancel_left]
      · rw [if_neg (by omega)]
        exact h1 p j (by omega) hj
    · rw [st2_if]
      by_cases e : p = i
      · rw [if_pos e, e]
      · rw [if_neg e, a2 _ (by omega)]
        exact h2 p (by omega)
    · rw [st2_k _ _ (by omega), a2 _ (by omega)]
      exact h3
    · rw [st2_k _ _ q2, a2 _ q1]
      exact h4 a q1 q2 q3
theorem emJ_eq {k i : Nat} {f : UInt64} (hk : k < 9) (hi : i < 9) (hik : i ≠ k) : ∀ j, j ≤ 9 → (∀ p q, p < 9 → q < 9 → emJ X k i f j 108 (9 * p + q) = if p = i ∧ k ≤ q ∧ q < j then ms (X 108 (9 * i + q)) f (X 108 (9 * k + q)) else X 108 (9 * p + q)) ∧ ∀ a, a ≠ 108 → emJ X k i f j a = X a
  | 0, _ => ⟨fun p q _ _ => by rw [if_neg (fun z => absurd z.2.2 (Nat.not_lt_zero _))]; rfl, fun _ _ => rfl⟩
  | j + 1, hj => by
    obtain ⟨a1, a2⟩ := emJ_eq (f := f) hk hi hik j (by omega)
    unfold emJ
    by_cases z : j < k
    · rw [if_pos z]
      refine ⟨fun p q hp hq => ?_, a2⟩
      rw [a1 p q hp hq]
      by_cases y : p = i ∧ k ≤ q ∧ q < j
      · rw [if_pos y, if_pos ⟨y.1, y.2.1, by omega⟩]
      · rw [if_neg y, if_neg (fun w => y ⟨w.1, w.2.1, by omega⟩)]
    · rw [if_neg z]
      have r1 : emJ X k i f j 108 (9 * i + j) = X 108 (9 * i + j) := by rw [a1 i j hi (by omega), if_neg (fun w => Nat.lt_irrefl _ w.2.2)]
      have r2 : emJ X k i f j 108 (9 * k + j) = X 108 (9 * k + j) := by rw [a1 k j hk (by omega), if_neg (fun w => hik w.1.symm)]
      rw [r1, r2]
      refine ⟨fun p q hp hq => ?_, fun a h => by rw [st2_k _ _ h]; exact a2 a h⟩
      rw [st2_if, a1 p q hp hq]
      by_cases e : 9 * p + q = 9 * i + j
      · have e1 : p = i := by omega
        have e2 : q = j := by omega
        rw [if_pos e, if_pos ⟨e1, by omega, by omega⟩, e2]
      · rw [if_neg e]
        by_cases y : p = i ∧ k ≤ q ∧ q < j
        · rw [if_pos y, if_pos ⟨y.1, y.2.1, by omega⟩]
        · rw [if_neg y, if_neg (fun w => y ⟨w.1, w.2.1, by omega⟩)]
theorem emI_eq {k : Nat} (hk : k < 9) (h : RR X M b x) : ∀ m, m ≤ 9 → RR (emI X k m) (fun i j => if i < m then elM M k i j else M i j) (fun i => if i < m then elB M b k i else b i) x ∧ oR X (emI X k m)
  | 0, _ => ⟨h, fun _ _ _ _ => rfl⟩
  | m + 1, hm => by
    obtain ⟨⟨h1, h2, h3⟩, h4⟩ := emI_eq hk h m (by omega)
    unfold emI
    by_cases z : m ≤ k
    · rw [if_pos z]
      refine ⟨⟨fun i j hi hj => ?_, fun i hi => ?_, h3⟩, h4⟩
      · rw [h1 i j hi hj]
        dsimp only
        by_cases e : i = m
        · rw [if_neg (by omega), if_pos (by omega)]
          unfold elM
          rw [if_neg (fun w => by omega)]
        · by_cases q : i < m
          · rw [if_pos q, if_pos (by omega)]
          · rw [if_neg q, if_neg (by omega)]
      · rw [h2 i hi]
        dsimp only
        by_cases e : i = m
        · rw [if_neg (by omega), if_pos (by omega)]
          unfold elB
          rw [if_neg (fun w => by omega)]
        · by_cases q : i < m
          · rw [if_pos q, if_pos (by omega)]
          · rw [if_neg q, if_neg (by omega)]
    · rw [if_neg z]
      have rk : ∀ j, j < 9 → emI X k m 108 (9 * k + j) = M k j := fun j hj => by
        rw [h1 k j hk hj]
        dsimp only
        rw [if_pos (by omega)]
        unfold elM
        rw [if_neg (fun w => by omega)]
      have ri : ∀ j, j < 9 → emI X k m 108 (9 * m + j) = M m j := fun j hj => by
        rw [h1 m j (by omega) hj]
        dsimp only
        rw [if_neg (Nat.lt_irrefl _)]
      have bk : emI X k m 109 k = b k := by
        rw [h2 k hk]
        dsimp only
        rw [if_pos (by omega)]
        unfold elB
        rw [if_neg (Nat.lt_irrefl _)]
      have bi : emI X k m 109 m = b m := by
        rw [h2 m (by omega)]
        dsimp only
        rw [if_neg (Nat.lt_irrefl _)]
      have ef : emf (emI X k m) k m = mlt M k m := by
        unfold emf mlt
        rw [ri k hk, show 10 * k = 9 * k + k from by omega, rk k hk]
      obtain ⟨a1, a2⟩ := emJ_eq (X := emI X k m) (f := emf (emI X k m) k m) (i := m) (k := k) hk (by omega) (by omega) 9 (Nat.le_refl _)
      unfold emS
      refine ⟨⟨fun i j hi hj => ?_, fun i hi => ?_, fun i hi => ?_⟩, fun a q1 q2 q3 => ?_⟩
      · rw [st2_k _ _ (by omega), a1 i j hi hj]
        dsimp only
        by_cases e : i = m
        · rw [e, if_pos (Nat.lt_succ_self m), ri j hj, rk j hj, ef]
          unfold elM
          by_cases y : k ≤ j
          · rw [if_pos ⟨rfl, y, hj⟩, if_pos ⟨by omega, y⟩]
          · rw [if_neg (fun w => y w.2.1), if_neg (fun w => y w.2)]
        · rw [if_neg (fun w => e w.1), h1 i j hi hj]
          dsimp only
          by_cases q : i < m
          · rw [if_pos q, if_pos (by omega)]
          · rw [if_neg q, if_neg (by omega)]
      · rw [st2_if]
        dsimp only
        by_cases e : i = m
        · rw [if_pos e, e, if_pos (Nat.lt_succ_self m), a2 109 (by omega), bi, bk, ef]
          unfold elB
          rw [if_pos (by omega)]
        · rw [if_neg e, a2 _ (by omega), h2 i hi]
          dsimp only
          by_cases q : i < m
          · rw [if_pos q, if_pos (by omega)]
          · rw [if_neg q, if_neg (by omega)]
      · rw [st2_k _ _ (by omega), a2 _ (by omega)]
        exact h3 i hi
      · rw [st2_k _ _ q2, a2 _ q1]
        exact h4 a q1 q2 q3
theorem FsOK_of {k i : Nat} (hk : k < 9) (hki : k < i) (hi : i < 9) (h : RR X M b x) (hE : okE M b k i) : FsOK (emI X k i) k i := by
  obtain ⟨⟨h1, h2, h3⟩, -⟩ := emI_eq hk h i (by omega)
  have rk : ∀ j, j < 9 → emI X k i 108 (9 * k + j) = M k j := fun j hj => by
    rw [h1 k j hk hj]
    dsimp only
    rw [if_pos hki]
    unfold elM
    rw [if_neg (fun w => by omega)]
  have ri : ∀ j, j < 9 → emI X k i 108 (9 * i + j) = M i j := fun j hj => by
    rw [h1 i j hi hj]
    dsimp only
    rw [if_neg (Nat.lt_irrefl _)]
  have bk : emI X k i 109 k = b k := by
    rw [h2 k hk]
    dsimp only
    rw [if_pos hki]
    unfold elB
    rw [if_neg (Nat.lt_irrefl _)]
  have bi : emI X k i 109 i = b i := by
    rw [h2 i hi]
    dsimp only
    rw [if_neg (Nat.lt_irrefl _)]
  have ef : emf (emI X k i) k i = mlt M k i := by
    unfold emf mlt
    rw [ri k hk, show 10 * k = 9 * k + k from by omega, rk k hk]
  obtain ⟨e1, e2, e3⟩ := hE
  refine ⟨by rw [ef]; exact e1.2, fun j q1 q2 => ?_, ?_⟩
  · obtain ⟨a1, a2⟩ := emJ_eq (X := emI X k i) (f := emf (emI X k i) k i) (i := i) (k := k) hk hi (by omega) j (by omega)
    rw [a1 i j hi q2, if_neg (fun w => Nat.lt_irrefl _ w.2.2), a1 k j hk q2, if_neg (fun w => by omega), ri j q2, rk j q2, ef]
    exact e2 j q1 q2
  · obtain ⟨a1, a2⟩ := emJ_eq (X := emI X k i) (f := emf (emI X k i) k i) (i := i) (k := k) hk hi (by omega) 9 (Nat.le_refl _)
    rw [a2 109 (by omega), bi, bk, ef]
    exact e3
theorem RR_congr {M' : Nat → Nat → UInt64} {b' : Nat → UInt64} (h : RR X M b x) (e1 : ∀ i j, i < 9 → j < 9 → M i j = M' i j) (e2 : ∀ i, i < 9 → b i = b' i) : RR X M' b' x := ⟨fun i j hi hj => (h.1 i j hi hj).trans (e1 i j hi hj), fun i hi => (h.2.1 i hi).trans (e2 i hi), h.2.2⟩
theorem moK_eq (h : RR X M b x) : ∀ k, k ≤ 9 → RR (moK X k) (seqM M k) (seqB M b k) x ∧ oR X (moK X k)
  | 0, _ => ⟨h, fun _ _ _ _ => rfl⟩
  | k + 1, hk => by
    obtain ⟨a, a2⟩ := moK_eq h k (by omega)
    obtain ⟨c, c2⟩ := emI_eq (by omega : k < 9) a 9 (Nat.le_refl _)
    unfold moK seqM seqB
    exact ⟨RR_congr c (fun i j hi hj => if_pos hi) (fun i hi => if_pos hi), a2.tr c2⟩
theorem smJ_eq {i : Nat} (hi : i < 9) (h : RR X M b x) : ∀ j, j ≤ 9 → smJ X i j = bsM M b x i j
  | 0, _ => h.2.1 i hi
  | j + 1, hj => by
    have ih := smJ_eq hi h j (by omega)
    unfold smJ bsM
    rw [ih, h.1 i j hi (by omega), h.2.2 j (by omega)]
theorem moR_eq (h : RR X M b x) : ∀ t, t ≤ 9 → RR (moR X t) M b (xS M b x t) ∧ oR X (moR X t)
  | 0, _ => ⟨h, fun _ _ _ _ => rfl⟩
  | t + 1, ht => by
    obtain ⟨⟨a1, a2, a3⟩, a4⟩ := moR_eq h t (by omega)
    have sr := smJ_eq (i := 8 - t) (by omega) (show RR (moR X t) M b (xS M b x t) from ⟨a1, a2, a3⟩) 9 (Nat.le_refl _)
    unfold moR smS xS
    refine ⟨⟨fun i j hi hj => by rw [st2_k _ _ (by omega)]; exact a1 i j hi hj, fun i hi => by rw [st2_k _ _ (by omega)]; exact a2 i hi, fun i hi => ?_⟩, fun a q1 q2 q3 => by rw [st2_k _ _ q3]; exact a4 a q1 q2 q3⟩
    rw [st2_if, sr, show 10 * (8 - t) = 9 * (8 - t) + (8 - t) from by omega, a1 (8 - t) (8 - t) (by omega) (by omega)]
    dsimp only
    by_cases e : i = 8 - t
    · rw [if_pos e, if_pos e]
    · rw [if_neg e, if_neg e]
      exact a3 i hi
theorem MoOK_of (h : RR X M b x) (h1 : ∀ k i, k < i → i < 9 → okE (seqM M k) (seqB M b k) k i) (h2 : ∀ t, t < 9 → okS (seqM M 9) (seqB M b 9) (xS (seqM M 9) (seqB M b 9) x t) (8 - t)) : MoOK X := by
  refine ⟨fun k hk i hki hi => FsOK_of hk hki hi (moK_eq h k (by omega)).1 (h1 k i hki hi), fun t ht => ?_⟩
  have g := (moR_eq (moK_eq h 9 (Nat.le_refl _)).1 t (by omega)).1
  obtain ⟨s1, s2⟩ := h2 t ht
  refine ⟨fun j q1 q2 => ?_, ?_⟩
  · rw [smJ_eq (by omega) g j (by omega), g.1 _ _ (by omega) q2, g.2.2 j q2]
    exact s1 j q1 q2
  · rw [smJ_eq (by omega) g 9 (Nat.le_refl _), show 10 * (8 - t) = 9 * (8 - t) + (8 - t) from by omega, g.1 _ _ (by omega) (by omega)]
    exact s2.2
end RefE
