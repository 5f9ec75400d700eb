/-! a settling, as the drift tells it -/
section Settle
variable {I0 : SI} {v : Nat} {p : SI × SJ}
/-- what is asked of a walk that is to be settled -/
def reS (I0 : SI) (v : Nat) (p : SI × SJ) : Prop := W99 I0 ∧ v < 4 ∧ RelN I0 p.1 ∧ 50 ≤ (p.1 102 2).toInt ∧ (p.1 102 2).toInt ≤ 90 ∧ 100 ≤ (p.1 102 3).toInt ∧ rN p.2 v ≤ 1000000000000 ∧ 10 * rN p.2 v + ssN p.2 v ≤ 100000000000000
theorem nd_ok (h : reS I0 v p) (hn : nsM v p) : ndM v p < 9 ∧ (p.1 102 3).toInt.toNat ≤ (p.2 105 (9 * v + ndM v p)).toInt.natAbs ∧ ∀ j, j < ndM v p → (p.2 105 (9 * v + j)).toInt.natAbs < (p.1 102 3).toInt.toNat := by
  obtain ⟨n, a, b, d, e, f⟩ := nx_low 9 0 hn
  have en : ndM v p = n := by
    unfold ndM
    rw [d, nI_clamp (by omega)]
  rw [en]
  refine ⟨by omega, (un_iff h.2.2.2.2.2.1).mp e, fun j hj => ?_⟩
  have := f j (Nat.zero_le _) hj
  rw [un_iff h.2.2.2.2.2.1] at this
  omega
theorem stp_ok (h : reS I0 v p) (hn : nsM v p) : reS I0 v (stpM (loF I0) v p) ∧ rN (stpM (loF I0) v p).2 v ≤ rN p.2 v ∧ 10 * rN (stpM (loF I0) v p).2 v + ssN (stpM (loF I0) v p).2 v ≤ 10 * rN p.2 v + ssN p.2 v ∧ ∀ a b, ¬ (a = 102 ∧ b = 4) → (stpM (loF I0) v p).1 a b = p.1 a b := by
  obtain ⟨n9, n1, n2⟩ := nd_ok h hn
  obtain ⟨hW, hv, hR, h1, h2, hb, hS, hE⟩ := h
  obtain ⟨k, k1, k2, k3⟩ := push_dec2 (lo := loF I0) hv n9 (lo_9 hv) (wt_of hR hW hv n9) h1 h2 hS (by omega) (by omega)
  have e : ∀ a b, ¬ (a = 102 ∧ b = 4) → (stpM (loF I0) v p).1 a b = p.1 a b := fun a b q => st2_n _ _ q
  have e2 : (stpM (loF I0) v p).2 = pushM p.1 (loF I0) p.2 v (ndM v p) := rfl
  rw [e2]
  refine ⟨⟨hW, hv, relN_far hR (fun x y q => e x y (fun z => q z.1)), ?_, ?_, ?_, ?_, ?_⟩, ?_, ?_, e⟩
  · rw [e _ _ (by omega)]; exact h1
  · rw [e _ _ (by omega)]; exact h2
  · rw [e _ _ (by omega)]; exact hb
  · rw [e2]; omega
  · rw [e2]; omega
  · omega
  · omega
theorem trj_ok (h : reS I0 v p) : ∀ t, (∀ x, x < t → nsM v (trj (loF I0) v x p)) → reS I0 v (trj (loF I0) v t p) ∧ rN (trj (loF I0) v t p).2 v ≤ rN p.2 v ∧ 10 * rN (trj (loF I0) v t p).2 v + ssN (trj (loF I0) v t p).2 v ≤ 10 * rN p.2 v + ssN p.2 v ∧ ∀ a b, ¬ (a = 102 ∧ b = 4) → (trj (loF I0) v t p).1 a b = p.1 a b
  | 0, _ => ⟨h, Nat.le_refl _, Nat.le_refl _, fun _ _ _ => rfl⟩
  | t + 1, hn => by
    obtain ⟨a1, a2, a3, a4⟩ := trj_ok h t (fun x hx => hn x (by omega))
    obtain ⟨b1, b2, b3, b4⟩ := stp_ok a1 (hn t (by omega))
    exact ⟨b1, Nat.le_trans b2 a2, Nat.le_trans b3 a3, fun a b q => (b4 a b q).trans (a4 a b q)⟩
def aS (I0 : SI) (v : Nat) (p : SI × SJ) (t x : Nat) : Nat := ((trj (loF I0) v t p).2 105 (9 * v + x)).toInt.natAbs
def nS (I0 : SI) (v : Nat) (p : SI × SJ) (t : Nat) : Nat := ndM v (trj (loF I0) v t p)
def gS2 (I0 : SI) (v : Nat) (p : SI × SJ) (t x : Nat) : Nat := gN (keepU (aS I0 v p t (nS I0 v p t)) (p.1 102 2)) (fromM (trj (loF I0) v t p).1 v (nS I0 v p t)) (suM (trj (loF I0) v t p).1 (nS I0 v p t)) (loF I0 v (nS I0 v p t)) x
def fS (I0 : SI) (v : Nat) (p : SI × SJ) (t : Nat) : Bool := decide (nS I0 v p t < 4 ∧ cN I0 (nS I0 v p t) 9 = 0)
theorem fS_t {t : Nat} : fS I0 v p t = true ↔ nS I0 v p t < 4 ∧ cN I0 (nS I0 v p t) 9 = 0 := by unfold fS; exact decide_eq_true_iff
theorem fS_f {t : Nat} : fS I0 v p t = false ↔ ¬ (nS I0 v p t < 4 ∧ cN I0 (nS I0 v p t) 9 = 0) := by unfold fS; exact decide_eq_false_iff_not
theorem smD_su (G : Nat → Nat → Nat) (t : Nat) : smD G t = suN (G t) 9 := by
  unfold smD
  simp only [suN]
  omega
/-- a push at time t -/
theorem at_t (h : reS I0 v p) {t : Nat} (hn : ∀ x, x ≤ t → nsM v (trj (loF I0) v x p)) :
    nS I0 v p t < 9 ∧ (p.1 102 3).toInt.toNat ≤ aS I0 v p t (nS I0 v p t) ∧ (∀ j, j < nS I0 v p t → aS I0 v p t j < (p.1 102 3).toInt.toNat) ∧ (∀ x, x < 9 → aS I0 v p (t + 1) x ≤ (if x = nS I0 v p t then 0 else aS I0 v p t x) + gS2 I0 v p t x) ∧
    (∃ l, smD (gS2 I0 v p) t + l ≤ aS I0 v p t (nS I0 v p t) ∧ (p.1 102 3).toInt.toNat / 10 ≤ l ∧ aS I0 v p t (nS I0 v p t) ≤ 10 * l + 9) ∧ RelN I0 (trj (loF I0) v t p).1 ∧ (∀ x, aS I0 v p t x ≤ 1000000000000 ∨ 9 ≤ x) := by
  obtain ⟨a1, a2, a3, a4⟩ := trj_ok h t (fun x hx => hn x (by omega))
  obtain ⟨n9, n1, n2⟩ := nd_ok a1 (hn t (Nat.le_refl _))
  obtain ⟨hW, hv, hR, h1, h2, hb, hS, hE⟩ := a1
  have eb : (trj (loF I0) v t p).1 102 3 = p.1 102 3 := a4 _ _ (by omega)
  have ed : (trj (loF I0) v t p).1 102 2 = p.1 102 2 := a4 _ _ (by omega)
  rw [eb] at n1 n2 hb
  have pa := push_all (lo := loF I0) hv n9 (lo_9 hv) (wt_of hR hW hv n9) h1 h2 hS (by omega) (by omega)
  rw [ed] at pa h1 h2
  obtain ⟨ku1, ku2⟩ := keepU_ok (a := ((trj (loF I0) v t p).2 105 (9 * v + ndM v (trj (loF I0) v t p))).toInt.natAbs) h1 h2
  refine ⟨n9, n1, n2, fun x hx => ?_, ⟨((trj (loF I0) v t p).2 105 (9 * v + ndM v (trj (loF I0) v t p))).toInt.natAbs * (100 - (p.1 102 2).toInt).toNat / 100, ?_, ?_, ?_⟩, hR, fun x => ?_⟩
  · have e1 := pa.1 x hx
    show ((stpM (loF I0) v (trj (loF I0) v t p)).2 105 (9 * v + x)).toInt.natAbs ≤ (if x = ndM v (trj (loF I0) v t p) then 0 else ((trj (loF I0) v t p).2 105 (9 * v + x)).toInt.natAbs) + gN (keepU ((trj (loF I0) v t p).2 105 (9 * v + ndM v (trj (loF I0) v t p))).toInt.natAbs (p.1 102 2)) (fromM (trj (loF I0) v t p).1 v (ndM v (trj (loF I0) v t p))) (suM (trj (loF I0) v t p).1 (ndM v (trj (loF I0) v t p))) (loF I0 v (ndM v (trj (loF I0) v t p))) x
    have e2 : (stpM (loF I0) v (trj (loF I0) v t p)).2 = pushM (trj (loF I0) v t p).1 (loF I0) (trj (loF I0) v t p).2 v (ndM v (trj (loF I0) v t p)) := rfl
    rw [e2, e1]
    by_cases q : x = ndM v (trj (loF I0) v t p)
    · rw [if_pos q, if_pos q]
      unfold sgI
      split <;> omega
    · rw [if_neg q, if_neg q]
      unfold sgI
      split <;> omega
  · rw [smD_su]
    have gs := gN_sum (U := keepU (aS I0 v p t (nS I0 v p t)) (p.1 102 2)) (wt_of hR hW hv n9) (lo_9 (I0 := I0) (n := ndM v (trj (loF I0) v t p)) hv)
    show suN (gN (keepU (aS I0 v p t (nS I0 v p t)) (p.1 102 2)) (fromM (trj (loF I0) v t p).1 v (nS I0 v p t)) (suM (trj (loF I0) v t p).1 (nS I0 v p t)) (loF I0 v (nS I0 v p t))) 9 + _ ≤ _
    rw [show nS I0 v p t = ndM v (trj (loF I0) v t p) from rfl] at gs ⊢
    rw [gs]
    exact Nat.le_of_eq ku1
  · refine Nat.le_trans ?_ ku2
    omega
  · show ((trj (loF I0) v t p).2 105 (9 * v + ndM v (trj (loF I0) v t p))).toInt.natAbs ≤ _
    omega
  · rcases Nat.lt_or_ge x 9 with q | q
    · left
      have := suN_at (f := fun x => ((trj (loF I0) v t p).2 105 (9 * v + x)).toInt.natAbs) 9 x q
      unfold aS
      unfold rN at hS
      omega
    · exact Or.inr q
/-- each push is a step of the drift's -/
theorem st_t (h : reS I0 v p) {t : Nat} (hn : ∀ x, x ≤ t → nsM v (trj (loF I0) v x p)) : stD (aS I0 v p) (gS2 I0 v p) (nS I0 v p) (fS I0 v p) (p.1 102 3).toInt.toNat ((p.1 102 3).toInt.toNat / 10) t := by
  obtain ⟨n9, n1, n2, n3, ⟨l, l1, l2, l3⟩, hR, -⟩ := at_t h hn
  have hW := h.1
  have hv := h.2.1
  have hb := h.2.2.2.2.2.1
  by_cases f : nS I0 v p t < 4 ∧ cN I0 (nS I0 v p t) 9 = 0
  · have g : ∀ x, gS2 I0 v p t x = if x = v then keepU (aS I0 v p t (nS I0 v p t)) (p.1 102 2) else 0 := fun x => gN_zv hR hW hv n9 f.2
    have gv := g v
    rw [if_pos rfl] at gv
    have ul : gS2 I0 v p t v ≤ aS I0 v p t (nS I0 v p t) := by
      rw [gv]
      unfold keepU
      omega
    have o : ∀ x, x < 9 → x ≠ nS I0 v p t → x ≠ v → aS I0 v p (t + 1) x ≤ aS I0 v p t x := fun x x9 x1 x2 => by
      have := n3 x x9
      rw [if_neg x1, g x, if_neg x2] at this
      omega
    left
    refine ⟨fS_t.mpr f, ?_, ?_, fun x x4 x9 => o x x9 (by omega) (by omega)⟩
    · by_cases e : v = nS I0 v p t
      · have m : aS I0 v p (t + 1) v ≤ aS I0 v p t v := by
          have := n3 v (by omega)
          rw [if_pos e] at this
          rw [← e] at ul
          omega
        have m' : ∀ x, x < 4 → aS I0 v p (t + 1) x ≤ aS I0 v p t x := fun x x4 => by
          by_cases q : x = v
          · rw [q]; exact m
          · exact o x (by omega) (by omega) q
        have := m' 0 (by omega); have := m' 1 (by omega); have := m' 2 (by omega); have := m' 3 (by omega)
        unfold rsD
        omega
      · have m1 := n3 v (by omega)
        rw [if_neg e] at m1
        have m2 := n3 (nS I0 v p t) n9
        rw [if_pos rfl, g, if_neg (fun z => e z.symm)] at m2
        have f1 := f.1
        generalize nS I0 v p t = n at *
        unfold rsD
        have c1 : n = 0 ∨ n = 1 ∨ n = 2 ∨ n = 3 := by omega
        have c2 : v = 0 ∨ v = 1 ∨ v = 2 ∨ v = 3 := by omega
        have o' : ∀ x, x < 4 → x ≠ n → x ≠ v → aS I0 v p (t + 1) x ≤ aS I0 v p t x := fun x x4 => o x (by omega)
        have o0 := o' 0 (by omega)
        have o1 := o' 1 (by omega)
        have o2 := o' 2 (by omega)
        have o3 := o' 3 (by omega)
        generalize aS I0 v p (t + 1) = A' at *
        generalize aS I0 v p t = A at *
        generalize gS2 I0 v p t = G at *
        clear o o' n3 g h hR hW
        rcases c1 with rfl | rfl | rfl | rfl <;> rcases c2 with rfl | rfl | rfl | rfl <;> simp at o0 o1 o2 o3 e <;> omega
    · have ob : ∀ x, x < 4 → x ≠ nS I0 v p t → x ≠ v → bgD (p.1 102 3).toInt.toNat (aS I0 v p (t + 1) x) ≤ bgD (p.1 102 3).toInt.toNat (aS I0 v p t x) := fun x x4 x1 x2 => bgD_mono (o x (by omega) x1 x2)
      have bn : bgD (p.1 102 3).toInt.toNat (aS I0 v p t (nS I0 v p t)) = 1 := bgD_o n1
      have bv := bgD_le (p.1 102 3).toInt.toNat (aS I0 v p (t + 1) v)
      by_cases e : v = nS I0 v p t
      · rw [← e] at bn
        have o' : ∀ x, x < 4 → bgD (p.1 102 3).toInt.toNat (aS I0 v p (t + 1) x) ≤ bgD (p.1 102 3).toInt.toNat (aS I0 v p t x) := fun x x4 => by
          by_cases q : x = v
          · rw [q]; omega
          · exact ob x x4 (by omega) q
        have := o' 0 (by omega); have := o' 1 (by omega); have := o' 2 (by omega); have := o' 3 (by omega)
        unfold unD
        omega
      · have m2 := n3 (nS I0 v p t) n9
        rw [if_pos rfl, g, if_neg (fun z => e z.symm)] at m2
        have bz : bgD (p.1 102 3).toInt.toNat (aS I0 v p (t + 1) (nS I0 v p t)) = 0 := by
          rw [Nat.le_zero.mp m2]; exact bgD_z (by omega)
        have f1 := f.1
        generalize nS I0 v p t = n at *
        unfold unD
        have c1 : n = 0 ∨ n = 1 ∨ n = 2 ∨ n = 3 := by omega
        have c2 : v = 0 ∨ v = 1 ∨ v = 2 ∨ v = 3 := by omega
        have o0 := ob 0 (by omega)
        have o1 := ob 1 (by omega)
        have o2 := ob 2 (by omega)
        have o3 := ob 3 (by omega)
        generalize aS I0 v p (t + 1) = A' at *
        generalize aS I0 v p t = A at *
        generalize (p.1 102 3).toInt.toNat = b at *
        clear o ob n3 g h hR hW
        rcases c1 with rfl | rfl | rfl | rfl <;> rcases c2 with rfl | rfl | rfl | rfl <;> simp at o0 o1 o2 o3 e <;> omega
  · right
    refine ⟨fS_f.mpr f, n9, n1, n2, ?_, fun x x9 x1 => ?_, ⟨l, l1, l2, l3⟩, fun n4 x x4 => ?_, fun n4 x x4 x9 => ?_⟩
    · have := n3 _ n9
      rw [if_pos rfl] at this
      omega
    · have := n3 x x9
      rw [if_neg x1] at this
      exact this
    · exact gN_read hR hW n4 (fun z => f ⟨n4, z⟩) x4
    · exact gN_book hR hW hv n9 n4 x9 x4
end Settle
