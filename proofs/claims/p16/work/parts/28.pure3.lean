/-! class's net against the reference's: pure -/
theorem i32_pos {x : Int32} : 0 < x ↔ 0 < x.toInt := by rw [Int32.lt_iff_toInt_lt, Int32.toInt_zero]
theorem i32_add {a b : Int32} (h1 : -1000000 ≤ a.toInt + b.toInt) (h2 : a.toInt + b.toInt ≤ 1000000) : (a + b).toInt = a.toInt + b.toInt := by
  rw [Int32.toInt_add, Int.bmod_def]
  split <;> omega
/-- loans and bars, of the class and of the reference -/
def RelN (I1 I2 : SI) : Prop := (∀ r b, r < 4 → b < 5 → I1 (3 + r) b = I2 103 (5 * r + b)) ∧ ∀ b, b < 5 → I1 7 b = I2 104 b
def W99 (I : SI) : Prop := ∀ r b, r < 4 → b < 5 → 0 ≤ (I (3 + r) b).toInt ∧ (I (3 + r) b).toInt ≤ 99
theorem wOf_bd {I : SI} (h : W99 I) {r b : Nat} (hr : r < 4) (hb : b < 5) : 0 ≤ (wOf I r b).toInt ∧ (wOf I r b).toInt ≤ 99 := by
  unfold wOf
  split
  · exact ⟨by decide, by decide⟩
  · exact h r b hr hb
theorem wM_bd {I : SI} (h : W99 I) {n o : Nat} (hn : n < 9) (ho : o < 9) : 0 ≤ (wM I n o).toInt ∧ (wM I n o).toInt ≤ 99 := by
  unfold wM
  split
  · split
    · exact ⟨by decide, by decide⟩
    · exact wOf_bd h (by omega) (by omega)
  · split
    · exact wOf_bd h (by omega) (by omega)
    · exact ⟨by decide, by decide⟩
theorem W99.pos {I : SI} (h : W99 I) : posW I := fun n o hn ho z => by
  rw [Int32.lt_iff_toInt_lt, Int32.toInt_zero] at z
  have := (wM_bd h hn ho).1
  omega
theorem sM_bd {I : SI} (h : W99 I) {n : Nat} (hn : n < 9) : ∀ m, m ≤ 9 → 0 ≤ (sM I n m).toInt ∧ (sM I n m).toInt ≤ 99 * m ∧ ((sM I n m).toInt = 0 → cN I n m = 0) ∧ (cN I n m = 0 → (sM I n m).toInt = 0)
  | 0, _ => ⟨by show 0 ≤ (0 : Int32).toInt; decide, by show (0 : Int32).toInt ≤ _; decide, fun _ => rfl, fun _ => rfl⟩
  | m + 1, hm => by
    obtain ⟨a, b, c1, c2⟩ := sM_bd h hn m (by omega)
    obtain ⟨d, e⟩ := wM_bd h hn (o := m) (by omega)
    have f : (sM I n (m + 1)).toInt = (sM I n m).toInt + (wM I n m).toInt := i32_add (by omega) (by omega)
    have g : cN I n (m + 1) = cN I n m + (if 0 < wM I n m then 1 else 0) := rfl
    by_cases p : 0 < wM I n m
    · rw [if_pos p] at g
      have p' := i32_pos.mp p
      exact ⟨by omega, by omega, fun z => by omega, fun z => by omega⟩
    · rw [if_neg p] at g
      have p' : ¬ 0 < (wM I n m).toInt := fun q => p (i32_pos.mpr q)
      exact ⟨by omega, by omega, fun z => by rw [g]; exact c1 (by omega), fun z => by rw [f, c2 (by omega)]; omega⟩
theorem lo_w {I1 I2 : SI} (h : RelN I1 I2) {n m : Nat} (hn : n < 9) (hm : m < 9) : loM I2 n m = wM I1 n m := by
  have key : ∀ r k, r < k → k < 9 → loR I2 r k = wM I1 r k := fun r k q1 q2 => by
    unfold loR
    by_cases a : 3 < r
    · rw [if_pos (Or.inl a), wM_b (by omega) (by omega)]
    · by_cases b : k < 4
      · rw [if_pos (Or.inr (Or.inl b)), wM_r (by omega) b]
      · have e1 : wM I1 r k = wOf I1 r (k - 4) := by unfold wM; rw [if_pos (by omega), if_neg b]
        rw [e1]
        unfold wOf
        rw [h.2 (k - 4) (by omega), h.1 r (k - 4) (by omega) (by omega)]
        by_cases c : I2 104 (k - 4) = 2
        · rw [if_pos (Or.inr (Or.inr c)), if_pos c]
        · rw [if_neg (fun z => z.elim a (fun z => z.elim b c)), if_neg c]
  have sy : ∀ a b, wM I1 a b = wM I1 b a := fun a b => by
    unfold wM
    by_cases q1 : a < 4 <;> by_cases q2 : b < 4 <;> simp [q1, q2]
  unfold loM
  by_cases a : n < m
  · rw [if_pos a]; exact key n m a hm
  · rw [if_neg a]
    by_cases b : m < n
    · rw [sy]; exact key m n b hn
    · have e : n = m := by omega
      subst e
      unfold loR
      by_cases c : n < 4
      · rw [if_pos (Or.inr (Or.inl c)), wM_r c c]
      · rw [if_pos (Or.inl (by omega)), wM_b (by omega) (by omega)]
theorem al_s {I1 I2 : SI} (h : RelN I1 I2) {n : Nat} (hn : n < 9) : ∀ m, m ≤ 9 → alM I2 n m = sM I1 n m
  | 0, _ => rfl
  | m + 1, hm => by
    show alM I2 n m + loM I2 n m = sM I1 n m + wM I1 n m
    rw [al_s h hn m (by omega), lo_w h hn (by omega)]
theorem all_s {I1 I2 : SI} (h : RelN I1 I2) {n : Nat} (hn : n < 9) : allM I2 n = sM I1 n 9 := al_s h hn 9 (Nat.le_refl _)
theorem s9_pos {I : SI} (h : W99 I) {n : Nat} (hn : n < 9) : 0 < sM I n 9 ↔ 0 < cN I n 9 := by
  obtain ⟨a, b, c1, c2⟩ := sM_bd h hn 9 (Nat.le_refl _)
  rw [i32_pos]
  constructor
  · intro q
    by_cases z : cN I n 9 = 0
    · have := c2 z; omega
    · omega
  · intro q
    by_cases z : (sM I n 9).toInt = 0
    · have := c1 z; omega
    · omega
theorem s9_ne {I : SI} (h : W99 I) {n : Nat} (hn : n < 9) : sM I n 9 = 0 ↔ cN I n 9 = 0 := by
  obtain ⟨a, b, c1, c2⟩ := sM_bd h hn 9 (Nat.le_refl _)
  constructor
  · intro q; exact c1 (by rw [q]; rfl)
  · intro q
    apply Int32.toInt_inj.mp
    rw [c2 q]; rfl
/-- the k-th neighbour -/
def nbS (I : SI) (n k : Nat) : Nat → Nat
  | 0 => 0
  | m + 1 => if 0 < wM I n m ∧ cN I n m = k then m else nbS I n k m
theorem nbS_ok {I : SI} {n k : Nat} : ∀ m, k < cN I n m → nbS I n k m < m ∧ 0 < wM I n (nbS I n k m) ∧ cN I n (nbS I n k m) = k
  | 0, h => absurd h (Nat.not_lt_zero _)
  | m + 1, h => by
    unfold nbS
    by_cases q : 0 < wM I n m ∧ cN I n m = k
    · rw [if_pos q]; exact ⟨Nat.lt_succ_self m, q.1, q.2⟩
    · rw [if_neg q]
      have h9 : k < cN I n m := by
        by_cases p : 0 < wM I n m
        · rw [cN_s p] at h
          have : cN I n m ≠ k := fun z => q ⟨p, z⟩
          omega
        · rw [cN_z p] at h; exact h
      obtain ⟨a, b, c⟩ := nbS_ok m h9
      exact ⟨by omega, b, c⟩
theorem nb_inj {I : SI} {n a b : Nat} (ha : 0 < wM I n a) (hb : 0 < wM I n b) (h : cN I n a = cN I n b) : a = b := by
  rcases Nat.lt_trichotomy a b with q | q | q
  · have := cN_lt ha q; omega
  · exact q
  · have := cN_lt hb q; omega
def nbF (I : SI) (n k : Nat) : Nat := nbS I n k 9
theorem nb_of {I : SI} {n o : Nat} (ho : o < 9) (h : 0 < wM I n o) : nbF I n (cN I n o) = o := by
  have q : cN I n o < cN I n 9 := cN_lt h ho
  obtain ⟨a, b, c⟩ := nbS_ok 9 q
  exact nb_inj b h c
theorem net_ok {I0 I : SI} (h : NetFull I0 I) : NetOK I (fun n => cN I0 n 9) (nbF I0) := fun n hn => by
  obtain ⟨g1, g2, g3, g4⟩ := h n hn
  refine ⟨g2, cN_le _ _ _, fun k hk => ?_⟩
  obtain ⟨a, b, c⟩ := nbS_ok 9 hk
  refine ⟨?_, a⟩
  have := g3 (nbF I0 n k) a b
  rw [show cN I0 n (nbF I0 n k) = k from c] at this
  exact this
/-- the lowest neighbour -/
def loF (I : SI) (v n : Nat) : Nat := if 0 < cN I n 9 then nbF I n 0 else v
theorem ref_ok {I1 I2 : SI} (h : RelN I1 I2) (hw : W99 I1) : RefOK I2 (loF I1) := fun v n hv hn => by
  have hall := all_s h hn
  unfold LowOK loF
  by_cases p : 0 < cN I1 n 9
  · obtain ⟨a, b, c⟩ := nbS_ok 9 p
    rw [if_pos p]
    have hp : 0 < allM I2 n := by rw [hall]; exact (s9_pos hw hn).mpr p
    refine ⟨a, ?_, fun k hk => ?_⟩
    · unfold fromM
      rw [if_pos hp, show loM I2 n (nbF I1 n 0) = wM I1 n (nbF I1 n 0) from lo_w h hn a]
      exact b
    · unfold fromM
      have hk9 : k < 9 := Nat.lt_trans hk a
      rw [if_pos hp, lo_w h hn hk9]
      intro z
      have := cN_lt z hk
      rw [show cN I1 n (nbF I1 n 0) = 0 from c] at this
      omega
  · rw [if_neg p]
    have hp : ¬ 0 < allM I2 n := by rw [hall]; exact fun z => p ((s9_pos hw hn).mp z)
    refine ⟨by omega, ?_, fun k hk => ?_⟩
    · unfold fromM
      rw [if_neg hp, if_pos rfl]; decide
    · unfold fromM
      rw [if_neg hp, if_neg (by omega)]; exact n0
