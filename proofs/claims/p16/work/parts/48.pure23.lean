/-! pushes of readers without neighbours are few -/
def fcD (fo : Nat → Bool) : Nat → Nat
  | 0 => 0
  | t + 1 => fcD fo t + (if fo t = true then 1 else 0)
theorem cn_fc (fo : Nat → Bool) : ∀ t, cnD fo t + fcD fo t = t
  | 0 => rfl
  | t + 1 => by
    have := cn_fc fo t
    unfold cnD fcD
    split <;> omega
theorem ite3 {C1 C2 C3 E : Prop} [Decidable C1] [Decidable C2] [Decidable C3] [Decidable E] (h1 : C1 → C2) (h2 : E → C3 → C2 ∧ ¬ C1) : (if C1 then 1 else 0) + (if E then (if C3 then 1 else 0) else 0) ≤ (if C2 then 1 else 0) := by
  by_cases a : C1 <;> by_cases b : C2 <;> by_cases d : C3 <;> by_cases e : E <;> simp_all
section Few
variable {I0 : SI} {v : Nat} {p : SI × SJ}
/-- nodes without neighbours that are to be pushed, but for the walk's reader -/
def peS (I0 : SI) (v : Nat) (p : SI × SJ) (t : Nat) : Nat := suN (fun x => if cN I0 x 9 = 0 ∧ x ≠ v ∧ (p.1 102 3).toInt.toNat ≤ aS I0 v p t x then 1 else 0) 9
theorem pe_step (h : reS I0 v p) {t : Nat} (hn : ∀ x, x ≤ t → nsM v (trj (loF I0) v x p)) : peS I0 v p (t + 1) + (if cN I0 (nS I0 v p t) 9 = 0 ∧ nS I0 v p t ≠ v then 1 else 0) ≤ peS I0 v p t := by
  obtain ⟨n9, n1, n2, n3, -, hR, -⟩ := at_t h hn
  have hW := h.1
  have hv := h.2.1
  have hb := h.2.2.2.2.2.1
  have e : suN (fun x => (if cN I0 x 9 = 0 ∧ x ≠ v ∧ (p.1 102 3).toInt.toNat ≤ aS I0 v p (t + 1) x then 1 else 0) + (if x = nS I0 v p t then (if cN I0 (nS I0 v p t) 9 = 0 ∧ nS I0 v p t ≠ v then 1 else 0) else 0)) 9 ≤ peS I0 v p t := by
    refine suN_le 9 (fun x hx => ?_)
    have g : cN I0 x 9 = 0 → x ≠ v → gS2 I0 v p t x = 0 := fun c d => gN_iso hR hW hv n9 hx d c
    have m := n3 x hx
    refine ite3 (fun z => ⟨z.1, z.2.1, ?_⟩) (fun q z => ?_)
    · rw [g z.1 z.2.1] at m
      have := z.2.2
      by_cases q : x = nS I0 v p t
      · rw [if_pos q] at m; omega
      · rw [if_neg q] at m; omega
    · rw [← q] at z
      rw [g z.1 z.2, if_pos q] at m
      exact ⟨⟨z.1, z.2, by rw [q]; exact n1⟩, fun y => by have := y.2.2; omega⟩
  rw [suN_add, suN_one, if_pos n9] at e
  exact e
theorem pe_le (t : Nat) : peS I0 v p t ≤ 9 := by
  have : peS I0 v p t ≤ suN (fun _ => 1) 9 := suN_le 9 (fun x _ => by split <;> omega)
  exact this
theorem lev_big {a : Nat} (h : a ≤ 1000000000000) : a * 10 ^ 250 < 100 * 11 ^ 250 := by
  have k : 1000000000000 * 10 ^ 250 < 100 * 11 ^ 250 := by decide +kernel
  exact Nat.lt_of_le_of_lt (Nat.mul_le_mul_right (10 ^ 250) h) k
theorem fc_go (h : reS I0 v p) : ∀ t, (∀ x, x < t → nsM v (trj (loF I0) v x p)) → ∃ lev, fcD (fS I0 v p) t + lev + 251 * peS I0 v p t ≤ 250 + 251 * peS I0 v p 0 ∧ (cN I0 v 9 = 0 → aS I0 v p t v * 10 ^ lev < 100 * 11 ^ lev)
  | 0, hn => by
    refine ⟨250, ?_, fun _ => lev_big ?_⟩
    · show 0 + 250 + _ ≤ _
      omega
    · have := suN_at (f := fun x => (p.2 105 (9 * v + x)).toInt.natAbs) 9 v (by have := h.2.1; omega)
      have hS := h.2.2.2.2.2.2.1
      unfold rN at hS
      show (p.2 105 (9 * v + v)).toInt.natAbs ≤ _
      omega
  | t + 1, hn => by
    obtain ⟨lev, i1, i2⟩ := fc_go h t (fun x hx => hn x (by omega))
    have hn' : ∀ x, x ≤ t → nsM v (trj (loF I0) v x p) := fun x hx => hn x (by omega)
    have ps := pe_step h hn'
    obtain ⟨n9, n1, n2, n3, ⟨l, l1, l2, l3⟩, hR, -⟩ := at_t h hn'
    have hW := h.1
    have hv := h.2.1
    have hb := h.2.2.2.2.2.1
    have e1 : fcD (fS I0 v p) (t + 1) = fcD (fS I0 v p) t + (if fS I0 v p t = true then 1 else 0) := rfl
    have big : aS I0 v p (t + 1) v ≤ 1000000000000 := by
      obtain ⟨a1, a2, -, -⟩ := trj_ok h (t + 1) hn
      have hS := a1.2.2.2.2.2.2.1
      have := suN_at (f := fun x => ((trj (loF I0) v (t + 1) p).2 105 (9 * v + x)).toInt.natAbs) 9 v (by omega)
      unfold rN at hS
      show ((trj (loF I0) v (t + 1) p).2 105 (9 * v + v)).toInt.natAbs ≤ _
      omega
    have mv := n3 v (by omega)
    by_cases c : cN I0 (nS I0 v p t) 9 = 0
    · by_cases d : nS I0 v p t = v
      · -- the walk's reader itself
        have c' : cN I0 v 9 = 0 := by rw [← d]; exact c
        have j := i2 c'
        rw [if_neg (fun z => z.2 d)] at ps
        rw [if_pos d.symm] at mv
        have gv : gS2 I0 v p t v = keepU (aS I0 v p t (nS I0 v p t)) (p.1 102 2) := by
          have := gN_zv (U := keepU (aS I0 v p t (nS I0 v p t)) (p.1 102 2)) (p := v) hR hW hv n9 c
          rw [if_pos rfl] at this
          exact this
        have ug : gS2 I0 v p t v ≤ smD (gS2 I0 v p) t := by
          rw [smD_su]
          exact suN_at 9 v (by omega)
        rw [d] at n1 l1 l3
        cases lev with
        | zero =>
          have j : aS I0 v p t v * 1 < 100 * 1 := j
          omega
        | succ lev =>
          refine ⟨lev, ?_, fun _ => ?_⟩
          · rw [e1]
            split <;> omega
          · rw [Nat.pow_succ, Nat.pow_succ] at j
            have k1 : 11 * aS I0 v p (t + 1) v ≤ 10 * aS I0 v p t v := by omega
            have k2 := Nat.mul_le_mul_right (10 ^ lev) k1
            rw [Nat.mul_assoc, Nat.mul_assoc] at k2
            rw [← Nat.mul_assoc, ← Nat.mul_assoc] at j
            omega
      · -- another one
        rw [if_pos ⟨c, d⟩] at ps
        refine ⟨250, ?_, fun _ => lev_big big⟩
        rw [e1]
        split <;> omega
    · have ff : fS I0 v p t = false := fS_f.mpr (fun z => c z.2)
      rw [if_neg (fun z => c z.1)] at ps
      refine ⟨lev, ?_, fun c' => ?_⟩
      · rw [e1, ff]
        simp
        omega
      · have gv : gS2 I0 v p t v = 0 := gN_isov hR hW hv n9 c c'
        rw [gv] at mv
        have j := i2 c'
        have k : aS I0 v p (t + 1) v ≤ aS I0 v p t v := by
          by_cases q : v = nS I0 v p t
          · rw [if_pos q] at mv; omega
          · rw [if_neg q] at mv; omega
        exact Nat.lt_of_le_of_lt (Nat.mul_le_mul_right _ k) j
theorem fc_le (h : reS I0 v p) {t : Nat} (hn : ∀ x, x < t → nsM v (trj (loF I0) v x p)) : fcD (fS I0 v p) t ≤ 2509 := by
  obtain ⟨lev, i1, -⟩ := fc_go h t hn
  have := pe_le (I0 := I0) (v := v) (p := p) 0
  omega
/-- how many pushes a settling takes -/
theorem settle_cnt (h : reS I0 v p) {t : Nat} (hn : ∀ x, x < t → nsM v (trj (loF I0) v x p)) (i : Nat) : (t - 2509) * ((p.1 102 3).toInt.toNat / 10 * h1D i) ≤ e8D i * (10 * rN p.2 v) + (p.1 102 3).toInt.toNat / 10 * kaD 5 i := by
  have hb := h.2.2.2.2.2.1
  have d := drift_count (A := aS I0 v p) (G := gS2 I0 v p) (nd := nS I0 v p) (fo := fS I0 v p) (b := (p.1 102 3).toInt.toNat) (fb := (p.1 102 3).toInt.toNat / 10) (T := t) (by omega) (by omega) (by omega) (fun x hx => st_t h (fun y hy => hn y (by omega))) (fun x hx => (at_t h (fun y hy => hn y (by omega))).1) i
  have c := cn_fc (fS I0 v p) t
  have f := fc_le h hn
  have m : (t - 2509) * ((p.1 102 3).toInt.toNat / 10 * h1D i) ≤ cnD (fS I0 v p) t * ((p.1 102 3).toInt.toNat / 10 * h1D i) := Nat.mul_le_mul_right _ (by omega)
  have q : psD (aS I0 v p) 8 0 ≤ 10 * rN p.2 v := by
    have e : rN p.2 v = suN (fun x => aS I0 v p 0 x) 9 := rfl
    rw [e]
    unfold psD rsD bsD
    simp only [suN]
    simp
    omega
  have m2 := Nat.mul_le_mul_left (e8D i) q
  omega
end Few
