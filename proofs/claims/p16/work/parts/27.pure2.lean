/-! the class's net, told anew, is the loans' and bars': pure -/
theorem i32_z {x : Int32} (h : ¬ x < 0) (g : ¬ 0 < x) : x = 0 := by
  rw [Int32.lt_iff_toInt_lt, Int32.toInt_zero] at h g
  apply Int32.toInt_inj.mp
  rw [Int32.toInt_zero]
  omega
def wM (I : SI) (n m : Nat) : Int32 := if n < 4 then (if m < 4 then 0 else wOf I n (m - 4)) else (if m < 4 then wOf I m (n - 4) else 0)
theorem wM_r {I : SI} {n m : Nat} (hn : n < 4) (hm : m < 4) : wM I n m = 0 := by unfold wM; rw [if_pos hn, if_pos hm]
theorem wM_b {I : SI} {n m : Nat} (hn : 4 ≤ n) (hm : 4 ≤ m) : wM I n m = 0 := by unfold wM; rw [if_neg (by omega), if_neg (by omega)]
theorem wM_rb {I : SI} {r b : Nat} (hr : r < 4) : wM I r (4 + b) = wOf I r b := by unfold wM; rw [if_pos hr, if_neg (by omega), Nat.add_sub_cancel_left]
theorem wM_br {I : SI} {r b : Nat} (hr : r < 4) : wM I (4 + b) r = wOf I r b := by unfold wM; rw [if_neg (by omega), if_pos hr, Nat.add_sub_cancel_left]
def cN (I : SI) (n : Nat) : Nat → Nat
  | 0 => 0
  | m + 1 => cN I n m + (if 0 < wM I n m then 1 else 0)
def sM (I : SI) (n : Nat) : Nat → Int32
  | 0 => 0
  | m + 1 => sM I n m + wM I n m
theorem cN_le (I : SI) (n m : Nat) : cN I n m ≤ m := by
  induction m with
  | zero => exact Nat.le_refl _
  | succ m ih => unfold cN; split <;> omega
theorem cN_mono {I : SI} {n a b : Nat} (h : a ≤ b) : cN I n a ≤ cN I n b := by
  induction b with
  | zero => rw [Nat.le_zero.mp h]; exact Nat.le_refl _
  | succ b ih =>
    by_cases e : a = b + 1
    · rw [e]; exact Nat.le_refl _
    · refine Nat.le_trans (ih (by omega)) ?_
      conv => rhs; unfold cN
      omega
theorem cN_s {I : SI} {n a : Nat} (h : 0 < wM I n a) : cN I n (a + 1) = cN I n a + 1 := by
  conv => lhs; unfold cN
  rw [if_pos h]
theorem cN_z {I : SI} {n a : Nat} (h : ¬ 0 < wM I n a) : cN I n (a + 1) = cN I n a := by
  conv => lhs; unfold cN
  rw [if_neg h]; rfl
theorem cN_lt {I : SI} {n a b : Nat} (h : 0 < wM I n a) (hab : a < b) : cN I n a < cN I n b := by
  have h1 : cN I n (a + 1) = cN I n a + 1 := cN_s h
  have h2 : cN I n (a + 1) ≤ cN I n b := cN_mono hab
  omega
theorem sM_z {I : SI} {n a : Nat} (h : wM I n a = 0) : sM I n (a + 1) = sM I n a := by
  conv => lhs; unfold sM
  rw [h]; exact Int32.add_zero _
theorem n0 : ¬ (0 : Int32) < 0 := by decide
theorem cN_r4 {I : SI} {r : Nat} (hr : r < 4) : ∀ m, m ≤ 4 → cN I r m = 0
  | 0, _ => rfl
  | m + 1, h => (cN_z (by rw [wM_r hr (by omega)]; exact n0)).trans (cN_r4 hr m (by omega))
theorem sM_r4 {I : SI} {r : Nat} (hr : r < 4) : ∀ m, m ≤ 4 → sM I r m = 0
  | 0, _ => rfl
  | m + 1, h => (sM_z (wM_r hr (by omega))).trans (sM_r4 hr m (by omega))
theorem cN_b9 {I : SI} {n : Nat} (hn : 4 ≤ n) : ∀ t, cN I n (4 + t) = cN I n 4
  | 0 => rfl
  | t + 1 => (cN_z (a := 4 + t) (by rw [wM_b hn (by omega)]; exact n0)).trans (cN_b9 hn t)
theorem sM_b9 {I : SI} {n : Nat} (hn : 4 ≤ n) : ∀ t, sM I n (4 + t) = sM I n 4
  | 0 => rfl
  | t + 1 => (sM_z (a := 4 + t) (wM_b hn (by omega))).trans (sM_b9 hn t)
theorem cN_cntR {I : SI} {r : Nat} (hr : r < 4) : ∀ b, cN I r (4 + b) = cntR I r b
  | 0 => cN_r4 hr 4 (Nat.le_refl _)
  | b + 1 => by
    show cN I r ((4 + b) + 1) = cntR I r b + (if 0 < wOf I r b then 1 else 0)
    rw [← cN_cntR hr b, ← wM_rb hr]
    rfl
theorem cN_cntB {I : SI} {b : Nat} : ∀ r, r ≤ 4 → cN I (4 + b) r = cntB I b r
  | 0, _ => rfl
  | r + 1, h => by
    show cN I (4 + b) r + (if 0 < wM I (4 + b) r then 1 else 0) = cntB I b r + (if 0 < wOf I r b then 1 else 0)
    rw [← cN_cntB r (by omega), wM_br (by omega)]
/-- what is told so far: of node n the others below L n -/
def nvInv (I0 : SI) (L : Nat → Nat) (I : SI) : Prop := (∀ n o, n < 9 → o < 9 → (n < 4 ↔ o < 4) → I (9 + n) o = 0) ∧ ∀ n, n < 9 → (∀ o, o < L n → I (9 + n) o = wM I0 n o) ∧ I 28 n = nI (cN I0 n (L n)) ∧ (∀ o, o < L n → 0 < wM I0 n o → I (19 + n) (cN I0 n o) = nI o) ∧ I 29 n = sM I0 n (L n)
theorem nv_step {I0 I : SI} {L : Nat → Nat} {n o : Nat} (hn : n < 9) (ho : o < 9) (hx : ¬ (n < 4 ↔ o < 4)) (hL : L n = o) (h : nvInv I0 L I) (h0 : ¬ wM I0 n o < 0) : nvInv I0 (fun m => if m = n then o + 1 else L m) (tnI I n o (wM I0 n o) (cN I0 n o)) := by
  obtain ⟨z, h⟩ := h
  have hk : cN I0 n o < 9 := Nat.lt_of_le_of_lt (cN_le _ _ _) ho
  unfold tnI
  by_cases hp : 0 < wM I0 n o
  · rw [if_pos ⟨hp, hk⟩]
    refine ⟨fun n' o' a b c => ?_, fun m hm => ?_⟩
    · have hd : ¬ (9 + n' = 9 + n ∧ o' = o) := by omega
      rw [st2_n _ _ (by omega), st2_n _ _ (by omega), st2_n _ _ (by omega), st2_n _ _ hd]
      exact z n' o' a b c
    · obtain ⟨g1, g2, g3, g4⟩ := h m hm
      by_cases e : m = n
      · subst e
        dsimp only
        rw [if_pos rfl]
        rw [hL] at g1 g2 g3 g4
        refine ⟨fun o' q => ?_, ?_, fun o' q w => ?_, ?_⟩
        · rw [st2_n _ _ (by omega), st2_n _ _ (by omega), st2_n _ _ (by omega)]
          by_cases eo : o' = o
          · rw [eo, st2_s]
          · rw [st2_n _ _ (by omega)]; exact g1 o' (by omega)
        · rw [st2_n _ _ (by omega), st2_s, cN_s hp]
        · rw [st2_n _ _ (by omega), st2_n _ _ (by omega)]
          by_cases eo : o' = o
          · rw [eo, st2_s]
          · have hlt : cN I0 m o' < cN I0 m o := cN_lt w (by omega)
            rw [st2_n _ _ (by omega), st2_n _ _ (by omega)]; exact g3 o' (by omega) w
        · rw [st2_s, st2_n _ _ (by omega), st2_n _ _ (by omega), st2_n _ _ (by omega), g4]
          rfl
      · dsimp only
        rw [if_neg e]
        refine ⟨fun o' q => ?_, ?_, fun o' q w => ?_, ?_⟩
        · rw [st2_n _ _ (by omega), st2_n _ _ (by omega), st2_n _ _ (by omega), st2_n _ _ (by omega)]; exact g1 o' q
        · rw [st2_n _ _ (by omega), st2_n _ _ (by omega), st2_n _ _ (by omega), st2_n _ _ (by omega)]; exact g2
        · rw [st2_n _ _ (by omega), st2_n _ _ (by omega), st2_n _ _ (by omega), st2_n _ _ (by omega)]; exact g3 o' q w
        · rw [st2_n _ _ (by omega), st2_n _ _ (by omega), st2_n _ _ (by omega), st2_n _ _ (by omega)]; exact g4
  · have hz : wM I0 n o = 0 := i32_z h0 hp
    rw [if_neg (fun q => hp q.1)]
    refine ⟨fun n' o' a b c => ?_, fun m hm => ?_⟩
    · have hd : ¬ (9 + n' = 9 + n ∧ o' = o) := by omega
      rw [st2_n _ _ hd]
      exact z n' o' a b c
    · obtain ⟨g1, g2, g3, g4⟩ := h m hm
      by_cases e : m = n
      · subst e
        dsimp only
        rw [if_pos rfl]
        rw [hL] at g1 g2 g3 g4
        refine ⟨fun o' q => ?_, ?_, fun o' q w => ?_, ?_⟩
        · by_cases eo : o' = o
          · rw [eo, st2_s]
          · rw [st2_n _ _ (by omega)]; exact g1 o' (by omega)
        · rw [st2_n _ _ (by omega), cN_z hp]; exact g2
        · have eo : o' ≠ o := fun eo => hp (by rw [← eo]; exact w)
          rw [st2_n _ _ (by omega)]; exact g3 o' (by omega) w
        · rw [st2_n _ _ (by omega), sM_z hz]; exact g4
      · dsimp only
        rw [if_neg e]
        refine ⟨fun o' q => ?_, ?_, fun o' q w => ?_, ?_⟩
        · rw [st2_n _ _ (by omega)]; exact g1 o' q
        · rw [st2_n _ _ (by omega)]; exact g2
        · rw [st2_n _ _ (by omega)]; exact g3 o' q w
        · rw [st2_n _ _ (by omega)]; exact g4
/-- how far at (r, b) -/
def nvL (r b : Nat) (n : Nat) : Nat := if n < 4 then (if n < r then 9 else if n = r then 4 + b else 4) else (if n < 4 + b then r + 1 else r)
theorem nvInv_L {I0 I : SI} {L L' : Nat → Nat} (h : nvInv I0 L I) (e : ∀ n, n < 9 → L n = L' n) : nvInv I0 L' I := ⟨h.1, fun n hn => by rw [← e n hn]; exact h.2 n hn⟩
def posW (I : SI) : Prop := ∀ n o, n < 9 → o < 9 → ¬ wM I n o < 0
theorem nv_tw {I0 I : SI} {r b : Nat} (hr : r < 4) (hb : b < 5) (hp : posW I0) (h : nvInv I0 (nvL r b) I) : nvInv I0 (nvL r (b + 1)) (twStep I0 r b I) := by
  unfold twStep
  have s1 := nv_step (n := r) (o := 4 + b) (by omega) (by omega) (by omega) (by unfold nvL; rw [if_pos hr, if_neg (by omega), if_pos rfl]) h (hp r (4 + b) (by omega) (by omega))
  rw [wM_rb hr, cN_cntR hr] at s1
  have e9 : (fun m => if m = r then 4 + b + 1 else nvL r b m) (4 + b) = r := by
    show (if 4 + b = r then 4 + b + 1 else nvL r b (4 + b)) = r
    rw [if_neg (by omega)]
    unfold nvL
    rw [if_neg (by omega), if_neg (by omega)]
  have s2 := nv_step (n := 4 + b) (o := r) (by omega) (by omega) (by omega) e9 s1 (hp (4 + b) r (by omega) (by omega))
  rw [wM_br hr, cN_cntB r (by omega)] at s2
  refine nvInv_L s2 (fun n hn => ?_)
  unfold nvL
  by_cases e1 : n = 4 + b
  · rw [if_pos e1, if_neg (by omega), if_pos (by omega)]
  · rw [if_neg e1]
    by_cases e2 : n = r
    · rw [if_pos e2, if_pos (by omega), if_neg (by omega), if_pos e2]; omega
    · rw [if_neg e2]
      by_cases e3 : n < 4
      · rw [if_pos e3, if_pos e3, if_neg e2, if_neg e2]
      · rw [if_neg e3, if_neg e3]
        by_cases e4 : n < 4 + b
        · rw [if_pos e4, if_pos (by omega)]
        · rw [if_neg e4, if_neg (by omega)]
theorem nv_in {I0 I : SI} {r : Nat} (hr : r < 4) (hp : posW I0) (h : nvInv I0 (nvL r 0) I) : ∀ b, b ≤ 5 → nvInv I0 (nvL r b) (twIn I0 r I b)
  | 0, _ => h
  | b + 1, q => nv_tw hr (by omega) hp (nv_in hr hp h b (by omega))
theorem tw0_s (I : SI) {m : Nat} : ∀ j, m < j → tw0 I j 29 m = 0
  | 0, h => absurd h (Nat.not_lt_zero _)
  | j + 1, h => by
    unfold tw0
    by_cases e : m = j
    · subst e; rw [st2_s]
    · rw [st2_n _ _ (by omega), st2_n _ _ (by omega), tw0_s I j (by omega)]
def offZ (I : SI) : Prop := ∀ n o, n < 9 → o < 9 → (n < 4 ↔ o < 4) → I (9 + n) o = 0
theorem nv_out {I0 : SI} (hp : posW I0) (hz : offZ I0) : ∀ r, r ≤ 4 → nvInv I0 (nvL r 0) (twOut I0 r)
  | 0, _ => by
    refine ⟨fun n o a b c => (congrFun (tw0_far I0 (by omega) (by omega) 9) o).trans (hz n o a b c), fun n hn => ?_⟩
    have f : ∀ o, tw0 I0 9 (9 + n) o = I0 (9 + n) o := fun o => congrFun (tw0_far I0 (by omega) (by omega) 9) o
    show (∀ o, o < nvL 0 0 n → tw0 I0 9 (9 + n) o = _) ∧ tw0 I0 9 28 n = _ ∧ _ ∧ tw0 I0 9 29 n = _
    rw [tw0_c I0 9 hn, tw0_s I0 9 hn]
    unfold nvL
    by_cases e : n < 4
    · rw [if_pos e, if_neg (by omega), cN_r4 e _ (by split <;> omega), sM_r4 e _ (by split <;> omega)]
      refine ⟨fun o q => ?_, rfl, fun o q w => ?_, rfl⟩
      · have ho : o < 4 := by revert q; split <;> omega
        rw [f, hz n o hn (by omega) ⟨fun _ => ho, fun _ => e⟩, wM_r e ho]
      · have ho : o < 4 := by revert q; split <;> omega
        rw [wM_r e ho] at w
        exact absurd w n0
    · rw [if_neg e, if_neg (by omega)]
      exact ⟨fun o q => absurd q (by omega), rfl, fun o q => absurd q (by omega), rfl⟩
  | r + 1, h => by
    have s := nv_in (by omega) hp (nv_out hp hz r (by omega)) 5 (by omega)
    refine nvInv_L s (fun n hn => ?_)
    unfold nvL
    by_cases e : n < 4
    · rw [if_pos e, if_pos e]
      by_cases e1 : n < r
      · rw [if_pos e1, if_pos (by omega)]
      · rw [if_neg e1]
        by_cases e2 : n = r
        · rw [if_pos e2, if_pos (by omega)]
        · rw [if_neg e2, if_neg (by omega)]
          split <;> rfl
    · rw [if_neg e, if_neg e, if_pos (by omega), if_neg (by omega)]
/-- the net as it is walked -/
def NetFull (I0 I : SI) : Prop := ∀ n, n < 9 → (∀ o, o < 9 → I (9 + n) o = wM I0 n o) ∧ I 28 n = nI (cN I0 n 9) ∧ (∀ o, o < 9 → 0 < wM I0 n o → I (19 + n) (cN I0 n o) = nI o) ∧ I 29 n = sM I0 n 9
theorem tell_full {I0 : SI} (hp : posW I0) (hz : offZ I0) : NetFull I0 (tellI I0) ∧ offZ (tellI I0) := by
  have h := nv_out hp hz 4 (Nat.le_refl _)
  refine ⟨fun n hn => ?_, h.1⟩
  obtain ⟨g1, g2, g3, g4⟩ := h.2 n hn
  by_cases e : n < 4
  · have eL : nvL 4 0 n = 9 := by unfold nvL; rw [if_pos e, if_pos e]
    rw [eL] at g1 g2 g3 g4
    exact ⟨g1, g2, g3, g4⟩
  · have eL : nvL 4 0 n = 4 := by unfold nvL; rw [if_neg e, if_neg (by omega)]
    rw [eL] at g1 g2 g3 g4
    refine ⟨fun o ho => ?_, g2.trans (by rw [← cN_b9 (by omega) 5]), fun o ho w => ?_, g4.trans (sM_b9 (by omega) 5).symm⟩
    · by_cases q : o < 4
      · exact g1 o q
      · exact (h.1 n o hn ho ⟨fun z => absurd z e, fun z => absurd z q⟩).trans (wM_b (by omega) (by omega)).symm
    · by_cases q : o < 4
      · exact g3 o q w
      · rw [wM_b (by omega) (by omega)] at w
        exact absurd w n0
