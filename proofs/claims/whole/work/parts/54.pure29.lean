/-! ways, side by side -/
/-- what a way carries: told alike, a million at most -/
def cyOK (c : Int64) (x : Int32) : Prop := x = c.toInt32 ∧ 0 ≤ c.toInt ∧ c.toInt ≤ 1000000
theorem cy_lt {c d : Int64} {x y : Int32} (h1 : cyOK c x) (h2 : cyOK d y) : (c < d ↔ x < y) ∧ (c = d ↔ x = y) := by
  obtain ⟨a1, a2, a3⟩ := h1
  obtain ⟨b1, b2, b3⟩ := h2
  have e1 : x.toInt = c.toInt := by
    rw [a1, Int64.toInt_toInt32, Int.bmod_def]
    split <;> omega
  have e2 : y.toInt = d.toInt := by
    rw [b1, Int64.toInt_toInt32, Int.bmod_def]
    split <;> omega
  refine ⟨?_, ?_⟩
  · rw [Int64.lt_iff_toInt_lt, Int32.lt_iff_toInt_lt, e1, e2]
  · rw [← Int64.toInt_inj, ← Int32.toInt_inj, e1, e2]
/-- a part of what is carried -/
theorem cy_part {u : Int64} {w t : Int32} (hu : 0 ≤ u.toInt ∧ u.toInt ≤ 1000000) (hw : 0 ≤ w.toInt) (hwt : w.toInt ≤ t.toInt) (ht : t.toInt ≤ 1000) (h0 : 0 < t.toInt) : 0 ≤ (u * w.toInt64 / t.toInt64).toInt ∧ (u * w.toInt64 / t.toInt64).toInt ≤ 1000000 := by
  have ew : w.toInt64.toInt = w.toInt := Int32.toInt_toInt64 _
  have et : t.toInt64.toInt = t.toInt := Int32.toInt_toInt64 _
  have m0 : 0 ≤ u.toInt * w.toInt := Int.mul_nonneg hu.1 hw
  have m1 : u.toInt * w.toInt ≤ 1000000 * t.toInt := Int.mul_le_mul hu.2 hwt hw (by decide)
  have e1 : (u * w.toInt64).toInt = u.toInt * w.toInt := by rw [i64_mul (by rw [ew]; omega) (by rw [ew]; omega), ew]
  rw [i64_div (by rw [et]; exact h0) (by rw [e1]; omega) (by rw [e1]; omega), e1, et, Int.tdiv_eq_ediv_of_nonneg m0]
  exact ⟨Int.ediv_nonneg m0 (by omega), Int.ediv_le_of_le_mul h0 m1⟩
theorem wM_sM {I : SI} (h : W99 I) {n o : Nat} (hn : n < 9) (ho : o < 9) : (wM I n o).toInt ≤ (sM I n 9).toInt := by
  have go : ∀ t, o + 1 + t ≤ 9 → (wM I n o).toInt ≤ (sM I n (o + 1 + t)).toInt := by
    intro t
    induction t with
    | zero =>
      intro q
      obtain ⟨a, b, -, -⟩ := sM_bd h hn o (by omega)
      obtain ⟨d1, d2⟩ := wM_bd h hn ho
      have e : (sM I n (o + 1)).toInt = (sM I n o).toInt + (wM I n o).toInt := i32_add (by omega) (by omega)
      show _ ≤ (sM I n (o + 1)).toInt
      omega
    | succ t ih =>
      intro q
      have := ih (by omega)
      obtain ⟨a, b, -, -⟩ := sM_bd h hn (o + 1 + t) (by omega)
      obtain ⟨d1, d2⟩ := wM_bd h hn (o := o + 1 + t) (by omega)
      have e : (sM I n (o + 1 + t + 1)).toInt = (sM I n (o + 1 + t)).toInt + (wM I n (o + 1 + t)).toInt := i32_add (by omega) (by omega)
      show _ ≤ (sM I n (o + 1 + t + 1)).toInt
      omega
  have := go (8 - o) (by omega)
  rwa [show o + 1 + (8 - o) = 9 from by omega] at this
theorem st2_if {α : Type} (F : Nat → Nat → α) (k i x : Nat) (v : α) : st2 F k i v k x = if x = i then v else F k x := by
  unfold st2
  by_cases q : x = i
  · rw [if_pos ⟨rfl, q⟩, if_pos q]
  · rw [if_neg (fun z => q z.2), if_neg q]
theorem adI_85 {I : SI} {k x : Nat} {b r : Int32} : adI I k b r 85 x = if x = k then b else I 85 x := by
  unfold adI
  rw [st2_k _ _ (by decide), st2_k _ _ (by decide), st2_if]
theorem adI_86 {I : SI} {k x : Nat} {b r : Int32} : adI I k b r 86 x = if x = k then r else I 86 x := by
  unfold adI
  rw [st2_k _ _ (by decide), st2_if, st2_k _ _ (by decide)]
theorem wyPut_111 {I : SI} {r k j o y x : Nat} : wyPut I r k j o y 111 x = if x = y then (wyC I r k j o).toInt32 else I 111 x := by
  unfold wyPut
  rw [st2_k _ _ (by decide), st2_k _ _ (by decide), st2_if]
theorem wyPut_112 {I : SI} {r k j o y x : Nat} : wyPut I r k j o y 112 x = if x = y then nI j else I 112 x := by
  unfold wyPut
  rw [st2_k _ _ (by decide), st2_if, st2_k _ _ (by decide)]
theorem wyPut_113 {I : SI} {r k j o y x : Nat} : wyPut I r k j o y 113 x = if x = y then nI o else I 113 x := by
  unfold wyPut
  rw [st2_if, st2_k _ _ (by decide), st2_k _ _ (by decide)]
section Ways
variable {I0 I1 I2 : SI}
/-- the class's ranking and the reference's rows, way by way -/
def wayRel (I1 I2 : SI) (s : SI × SJ × Nat) (t : SI × Nat) : Prop := s.2.2 = t.2 ∧ (∀ a, a ≠ 83 → a ≠ 85 → a ≠ 86 → s.1 a = I1 a) ∧ (∀ a, a ≠ 111 → a ≠ 112 → a ≠ 113 → t.1 a = I2 a) ∧ ∀ x, x < t.2 → s.1 85 x = t.1 112 x ∧ s.1 86 x = t.1 113 x ∧ cyOK (s.2.1 84 x) (t.1 111 x)
theorem isW_iff (hF : NetFull I0 I1) (hW : W99 I0) (hR : RelN I0 I2) {s : SI × SJ × Nat} {t : SI × Nat} (h : wayRel I1 I2 s t) {r k j o : Nat} (hr : r < 4) (hk : k < 5) (hj : j < 5) (ho : o < 4) :
    (isWc s.1 r j o k ↔ isW t.1 r k j o) ∧ (isW t.1 r k j o → cyOK (coF s.1 r j o k) (wyC t.1 r k j o).toInt32) := by
  obtain ⟨-, h2, h3, -⟩ := h
  have w1 : s.1 (9 + r) (4 + j) = wM I0 r (4 + j) := by rw [h2 _ (by omega) (by omega) (by omega)]; exact (hF r (by omega)).1 _ (by omega)
  have w2 : s.1 (9 + (4 + j)) o = wM I0 (4 + j) o := by rw [h2 _ (by omega) (by omega) (by omega)]; exact (hF (4 + j) (by omega)).1 _ (by omega)
  have w3 : s.1 (9 + o) (4 + k) = wM I0 o (4 + k) := by rw [h2 _ (by omega) (by omega) (by omega)]; exact (hF o (by omega)).1 _ (by omega)
  have hI : ∀ a b, (a = 103 ∨ a = 104) → t.1 a b = I2 a b := fun a b q => by rw [h3 a (by omega) (by omega) (by omega)]
  have hR' : RelN I0 t.1 := ⟨fun r b q1 q2 => by rw [hI _ _ (Or.inl rfl)]; exact hR.1 r b q1 q2, fun b q => by rw [hI _ _ (Or.inr rfl)]; exact hR.2 b q⟩
  have l1 : loM t.1 r (4 + j) = wM I0 r (4 + j) := lo_w hR' (by omega) (by omega)
  have l2 : loM t.1 o (4 + j) = wM I0 (4 + j) o := by rw [lo_w hR' (by omega) (by omega)]; exact wM_sy _ _ _
  have l3 : loM t.1 o (4 + k) = wM I0 o (4 + k) := lo_w hR' (by omega) (by omega)
  refine ⟨?_, fun hw => ?_⟩
  · unfold isWc isW
    rw [w1, w2, w3, l1, l2, l3]
  · unfold isW at hw
    rw [l1, l2, l3] at hw
    obtain ⟨-, -, p1, p2, p3⟩ := hw
    have s1 : ∀ n, n < 9 → s.1 29 n = sM I0 n 9 := fun n hn => by rw [h2 _ (by omega) (by omega) (by omega)]; exact (hF n hn).2.2.2
    have a1 : ∀ n, n < 9 → allM t.1 n = sM I0 n 9 := fun n hn => all_s hR' hn
    have pos : ∀ n q, n < 9 → q < 9 → 0 < wM I0 n q → ¬ sM I0 n 9 = 0 ∧ 0 < (sM I0 n 9).toInt ∧ (sM I0 n 9).toInt ≤ 1000 := fun n q hn hq z => by
      have := cN_pos hq z
      have z1 : ¬ sM I0 n 9 = 0 := fun y => this ((s9_ne hW hn).mp y)
      have z2 := i32_pos.mp ((s9_pos hW hn).mpr (by omega))
      obtain ⟨-, b, -, -⟩ := sM_bd hW hn 9 (Nat.le_refl _)
      exact ⟨z1, z2, by omega⟩
    obtain ⟨c1, c2, c3⟩ := pos r (4 + j) (by omega) (by omega) p1
    obtain ⟨d1, d2, d3⟩ := pos (4 + j) o (by omega) (by omega) p2
    obtain ⟨e1, e2, e3⟩ := pos o (4 + k) (by omega) (by omega) p3
    have b1 := cy_part (u := 1000000) (w := wM I0 r (4 + j)) (t := sM I0 r 9) ⟨by decide, by decide⟩ (wM_bd hW (by omega) (by omega)).1 (wM_sM hW (by omega) (by omega)) c3 c2
    have b2 := cy_part (w := wM I0 (4 + j) o) (t := sM I0 (4 + j) 9) b1 (wM_bd hW (by omega) (by omega)).1 (wM_sM hW (by omega) (by omega)) d3 d2
    have b3 := cy_part (w := wM I0 o (4 + k)) (t := sM I0 o 9) b2 (wM_bd hW (by omega) (by omega)).1 (wM_sM hW (by omega) (by omega)) e3 e2
    have eC : coF s.1 r j o k = 1000000 * (wM I0 r (4 + j)).toInt64 / (sM I0 r 9).toInt64 * (wM I0 (4 + j) o).toInt64 / (sM I0 (4 + j) 9).toInt64 * (wM I0 o (4 + k)).toInt64 / (sM I0 o 9).toInt64 := by
      unfold coF cfF
      rw [s1 r (by omega), s1 (4 + j) (by omega), s1 o (by omega), if_neg c1, if_neg d1, if_neg e1, w1, w2, w3]
    have eW : wyC t.1 r k j o = 1000000 * (wM I0 r (4 + j)).toInt64 / (sM I0 r 9).toInt64 * (wM I0 (4 + j) o).toInt64 / (sM I0 (4 + j) 9).toInt64 * (wM I0 o (4 + k)).toInt64 / (sM I0 o 9).toInt64 := by
      unfold wyC
      rw [l1, l2, l3, a1 r (by omega), a1 (4 + j) (by omega), a1 o (by omega)]
    rw [eC, eW]
    exact ⟨rfl, b3⟩
theorem way_step (hF : NetFull I0 I1) (hW : W99 I0) (hR : RelN I0 I2) {s : SI × SJ × Nat} {t : SI × Nat} {r k j : Nat} (hr : r < 4) (hk : k < 5) (hj : j < 5) (h : wayRel I1 I2 s t) : ∀ o, o ≤ 4 → wayRel I1 I2 (rwIn r k j s o) (wyIn r k j t o)
  | 0, _ => h
  | o + 1, ho => by
    have ih := way_step hF hW hR hr hk hj h o (by omega)
    obtain ⟨i1, i2⟩ := isW_iff hF hW hR ih hr hk hj (by omega : o < 4)
    unfold rwIn wyIn
    by_cases q : isW (wyIn r k j t o).1 r k j o
    · rw [if_pos q, if_pos (i1.mpr q)]
      have cy := i2 q
      obtain ⟨h1, h2, h3, h4⟩ := ih
      refine ⟨by dsimp only; rw [h1], fun a p1 p2 p3 => ?_, fun a p1 p2 p3 => ?_, fun x hx => ?_⟩
      · dsimp only
        unfold adI
        rw [st2_k _ _ p1, st2_k _ _ p3, st2_k _ _ p2]
        exact h2 a p1 p2 p3
      · dsimp only
        unfold wyPut
        rw [st2_k _ _ p3, st2_k _ _ p2, st2_k _ _ p1]
        exact h3 a p1 p2 p3
      · dsimp only at hx ⊢
        rw [adI_85, adI_86, wyPut_111, wyPut_112, wyPut_113, st2_if, h1]
        by_cases z : x = (wyIn r k j t o).2
        · rw [if_pos z, if_pos z, if_pos z, if_pos z, if_pos z, if_pos z]
          exact ⟨rfl, rfl, cy⟩
        · rw [if_neg z, if_neg z, if_neg z, if_neg z, if_neg z, if_neg z]
          exact h4 x (by omega)
    · rw [if_neg q, if_neg (fun z => q (i1.mp z))]
      exact ih
theorem way_out (hF : NetFull I0 I1) (hW : W99 I0) (hR : RelN I0 I2) {J : SJ} {r k : Nat} (hr : r < 4) (hk : k < 5) : ∀ j, j ≤ 5 → wayRel I1 I2 (rwOut I1 J r k j) (wyOut I2 r k j)
  | 0, _ => ⟨rfl, fun a p _ _ => st2_k _ _ p, fun _ _ _ _ => rfl, fun x hx => absurd hx (Nat.not_lt_zero _)⟩
  | j + 1, hj => way_step hF hW hR hr hk (by omega) (way_out hF hW hR hr hk j (by omega)) 4 (Nat.le_refl _)
theorem way_ca {s : SI × SJ × Nat} {t : SI × Nat} (h : wayRel I1 I2 s t) {x : Nat} (hx : x < t.2) : ∀ m, m ≤ t.2 → caN s.2.1 x m = wsN t.1 x m
  | 0, _ => rfl
  | m + 1, hm => by
    have ih := way_ca h hx m (by omega)
    obtain ⟨-, -, -, h4⟩ := h
    unfold caN wsN
    obtain ⟨l1, l2⟩ := cy_lt (h4 x hx).2.2 (h4 m (by omega)).2.2
    rw [ih]
    congr 1
    by_cases c : t.1 111 x < t.1 111 m ∨ t.1 111 m = t.1 111 x ∧ m < x
    · rw [if_pos c, if_pos (c.imp l1.mpr (fun z => ⟨(l2.mpr z.1.symm).symm, z.2⟩))]
    · rw [if_neg c, if_neg (fun z => c (z.imp l1.mp (fun y => ⟨(l2.mp y.1.symm).symm, y.2⟩)))]
theorem way_go {s : SI × SJ × Nat} {t : SI × Nat} {pl wh : Int32} (h : wayRel I1 I2 s t) : ∀ d x, x + d = t.2 → (fiF s.2.1 t.2 pl d x = -1 ∧ waF t.1 t.2 pl wh d x = -1) ∨ ∃ f, f < t.2 ∧ fiF s.2.1 t.2 pl d x = nI f ∧ waF t.1 t.2 pl wh d x = waA t.1 f wh
  | 0, _, _ => Or.inl ⟨rfl, rfl⟩
  | d + 1, x, hd => by
    unfold fiF waF
    rw [way_ca h (by omega : x < t.2) t.2 (Nat.le_refl _)]
    by_cases c : nI (wsN t.1 x t.2) = pl
    · rw [if_pos c, if_pos c]
      exact Or.inr ⟨x, by omega, rfl, rfl⟩
    · rw [if_neg c, if_neg c]
      exact way_go h d (x + 1) (by omega)
/-- a way: both answer the same -/
theorem way_eq (hF : NetFull I0 I1) (hW : W99 I0) (hR : RelN I0 I2) {J : SJ} {r k : Nat} {pl wh : Int32} (hr : r < 4) (hk : k < 5) :
    (fiF (rwOut I1 J r k 5).2.1 (rwOut I1 J r k 5).2.2 pl (rwOut I1 J r k 5).2.2 0 = -1 ∧ waF (wyOut I2 r k 5).1 (wyOut I2 r k 5).2 pl wh (wyOut I2 r k 5).2 0 = -1) ∨
    ∃ f, f < 20 ∧ fiF (rwOut I1 J r k 5).2.1 (rwOut I1 J r k 5).2.2 pl (rwOut I1 J r k 5).2.2 0 = nI f ∧ waF (wyOut I2 r k 5).1 (wyOut I2 r k 5).2 pl wh (wyOut I2 r k 5).2 0 = (if wh = 0 then (rwOut I1 J r k 5).1 85 f else if wh = 1 then (rwOut I1 J r k 5).1 86 f else ((rwOut I1 J r k 5).2.1 84 f).toInt32) := by
  have h := way_out hF hW hR (J := J) hr hk 5 (Nat.le_refl _)
  have hz := (rwOut_sz (I := I1) (J := J) (r := r) (k := k) 5).2
  generalize rwOut I1 J r k 5 = s at *
  generalize wyOut I2 r k 5 = t at *
  have g := way_go (pl := pl) (wh := wh) h t.2 0 (Nat.zero_add _)
  obtain ⟨h1, -, -, h4⟩ := h
  rw [h1] at hz ⊢
  rcases g with g | ⟨f, f1, f2, f3⟩
  · exact Or.inl g
  · refine Or.inr ⟨f, by omega, f2, ?_⟩
    obtain ⟨k1, k2, k3⟩ := h4 f f1
    rw [f3]
    unfold waA
    rw [k1, k2, ← k3.1]
end Ways
