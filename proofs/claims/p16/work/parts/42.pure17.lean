/-! all walks end, where each one's rests are few -/
theorem suN_congr {f g : Nat → Nat} : ∀ m, (∀ p, p < m → f p = g p) → suN f m = suN g m
  | 0, _ => rfl
  | m + 1, h => by unfold suN; rw [h m (Nat.lt_succ_self m), suN_congr m (fun p hp => h p (by omega))]
theorem rN_fR {v w : Nat} {J J' : SJ} (hv : v < 4) (hw : w < 4) (hne : w ≠ v) (f : fR v J J') : rN J' w = rN J w := suN_congr 9 (fun p hp => by rw [f _ _ (by omega) (by omega) (by omega)])
theorem ssN_fR {v w : Nat} {J J' : SJ} (hv : v < 4) (hw : w < 4) (hne : w ≠ v) (f : fR v J J') : ssN J' w = ssN J w := suN_congr 9 (fun n hn => suN_congr 9 (fun o ho => by rw [f _ _ (by omega) (by omega) (by omega)]))
theorem fR_push {I0 I2 : SI} {J : SJ} {v n : Nat} (hv : v < 4) (hn : n < 9) : fR v J (pushM I2 (loF I0) J v n) := by
  unfold pushM
  exact ((fR_J (by omega)).tr (fR_J (by omega))).tr (fR_send hv hn)
theorem run_frame {I0 : SI} {v : Nat} (hv : v < 4) : ∀ (F : Nat) (I2 : SI) (J2 : SJ) (s : SI × SJ), runM (loF I0) v F I2 J2 = some s → fR v J2 s.2 ∧ ∀ a b, ¬ (a = 102 ∧ b = 4) → s.1 a b = I2 a b := by
  intro F
  induction F with
  | zero =>
    intro I2 J2 s hs
    unfold runM at hs
    split at hs
    · cases hs; exact ⟨fR.rf, fun _ _ _ => rfl⟩
    · cases hs
  | succ F ih =>
    intro I2 J2 s hs
    unfold runM at hs
    by_cases c : nxF J2 v (I2 102 3) 9 0 = -1
    · rw [if_pos c] at hs
      cases hs; exact ⟨fR.rf, fun _ _ _ => rfl⟩
    · obtain ⟨n, a, b, d, e⟩ := nx_un 9 0 c
      rw [if_neg c, d, nI_clamp (by omega)] at hs
      obtain ⟨r1, r2⟩ := ih _ _ s hs
      exact ⟨(fR_push hv (by omega)).tr r1, fun x y q => (r2 x y q).trans (st2_n _ _ q)⟩
theorem term_go {I0 I2 : SI} {J2 : SJ} {F : Nat} (hW : W99 I0) (hR : RelN I0 I2) (h1 : 50 ≤ (I2 102 2).toInt) (h2 : (I2 102 2).toInt ≤ 90) (hb : 100 ≤ (I2 102 3).toInt) (hF : F ≤ 100000000) (h : ∀ v, v < 4 → rN J2 v ≤ 10 * F) :
    ∀ v, v ≤ 4 → (∀ a b, ¬ (a = 102 ∧ b = 4) → (sqR (loF I0) F I2 J2 v).1 a b = I2 a b) ∧ (∀ x, x < 4 → v ≤ x → rN (sqR (loF I0) F I2 J2 v).2 x = rN J2 x) ∧ (∀ x, x < v → ∃ s, runM (loF I0) x F (sqR (loF I0) F I2 J2 x).1 (sqR (loF I0) F I2 J2 x).2 = some s)
  | 0, _ => ⟨fun _ _ _ => rfl, fun _ _ _ => rfl, fun x hx => absurd hx (Nat.not_lt_zero _)⟩
  | v + 1, hv => by
    obtain ⟨a, b, c⟩ := term_go hW hR h1 h2 hb hF h v (by omega)
    have hv4 : v < 4 := by omega
    obtain ⟨s, hs⟩ := run_end hW hv4 F (sqR (loF I0) F I2 J2 v).1 (sqR (loF I0) F I2 J2 v).2 (relN_far hR (fun x y q => a x y (fun z => q z.1))) (by rw [a _ _ (by omega)]; exact h1) (by rw [a _ _ (by omega)]; exact h2) (by rw [a _ _ (by omega)]; exact hb) (by rw [b v hv4 (Nat.le_refl _)]; exact h v hv4) hF
    obtain ⟨r1, r2⟩ := run_frame hv4 F _ _ s hs
    have eR : sqR (loF I0) F I2 J2 (v + 1) = s := by
      conv => lhs; unfold sqR
      rw [hs]; rfl
    rw [eR]
    refine ⟨fun x y q => (r2 x y q).trans (a x y q), fun x hx q => (rN_fR hv4 hx (by omega) r1).trans (b x hx (by omega)), fun x hx => ?_⟩
    by_cases e : x = v
    · subst e; exact ⟨s, hs⟩
    · exact c x (by omega)
theorem term_of {I0 I2 : SI} {J2 : SJ} {F : Nat} (hW : W99 I0) (hR : RelN I0 I2) (h1 : 50 ≤ (I2 102 2).toInt) (h2 : (I2 102 2).toInt ≤ 90) (hb : 100 ≤ (I2 102 3).toInt) (hF : F ≤ 100000000) (h : ∀ v, v < 4 → rN J2 v ≤ 10 * F) : TermR (loF I0) F I2 J2 := fun v hv => (term_go hW hR h1 h2 hb hF h 4 (Nat.le_refl _)).2.2 v hv
theorem rN_begin {J : SJ} {v : Nat} (hv : v < 4) : rN (beginM J) v = 1000000 ∧ ssN (beginM J) v = 0 := by
  obtain ⟨b1, b2⟩ := bm2_eq (J := bm1 J 324) 36
  have b3 := bm1_eq (J := J) 324
  constructor
  · have e : rN (beginM J) v = suN (fun p => if p = v then 1000000 else 0) 9 := suN_congr 9 (fun p hp => by
      unfold beginM
      rw [(b1 _ (by omega)).2]
      by_cases q : p = v
      · rw [if_pos q, if_pos (by omega)]; rfl
      · rw [if_neg q, if_neg (by omega)]; rfl)
    rw [e, suN_one, if_pos (by omega)]
  · have e : ssN (beginM J) v = suN (fun _ => suN (fun _ => 0) 9) 9 := suN_congr 9 (fun n hn => suN_congr 9 (fun o ho => by
      unfold beginM
      rw [congrFun b2 _, b3 _ (by omega)]; rfl))
    rw [e]; rfl
/-- begun anew, all walks end -/
theorem term_begin {I0 I2 : SI} {J2 : SJ} (hW : W99 I0) (hR : RelN I0 I2) (h1 : 50 ≤ (I2 102 2).toInt) (h2 : (I2 102 2).toInt ≤ 90) (hb : 100 ≤ (I2 102 3).toInt) : TermR (loF I0) 10000000 I2 (beginM J2) := term_of hW hR h1 h2 hb (by omega) (fun v hv => by rw [(rN_begin hv).1]; omega)
/-- mended, all walks end, where rests and sent are few -/
theorem rN_mdA {I0 I2 : SI} {J2 : SJ} (hW : W99 I0) (hR : RelN I0 I2) (h : ∀ v, v < 4 → rN J2 v + 2 * ssN J2 v ≤ 100000000) : ∀ k, k ≤ 4 → (∀ x, x < 4 → k ≤ x → rN (mdA I2 (loF I0) J2 k) x = rN J2 x ∧ ssN (mdA I2 (loF I0) J2 k) x = ssN J2 x) ∧ ∀ x, x < k → rN (mdA I2 (loF I0) J2 k) x ≤ rN J2 x + 2 * ssN J2 x
  | 0, _ => ⟨fun _ _ _ => ⟨rfl, rfl⟩, fun x hx => absurd hx (Nat.not_lt_zero _)⟩
  | k + 1, hk => by
    obtain ⟨a, b⟩ := rN_mdA hW hR h k (by omega)
    have hk4 : k < 4 := by omega
    have f : fR k (mdA I2 (loF I0) J2 k) (mdA I2 (loF I0) J2 (k + 1)) := fR_md hk4 9 (Nat.le_refl _)
    obtain ⟨a1, a2⟩ := a k hk4 (Nat.le_refl _)
    have hh := h k hk4
    refine ⟨fun x hx q => ⟨(rN_fR hk4 hx (by omega) f).trans (a x hx (by omega)).1, (ssN_fR hk4 hx (by omega) f).trans (a x hx (by omega)).2⟩, fun x hx => ?_⟩
    by_cases e : x = k
    · subst e
      have a3 : suN (seN (mdA I2 (loF I0) J2 x) x) 9 = ssN J2 x := a2
      have m := md_rN (J := mdA I2 (loF I0) J2 x) hR hW hk4 (by rw [a1, a3]; omega) 9 (Nat.le_refl _)
      rw [a1, a3] at m
      exact m
    · rw [rN_fR hk4 (by omega) e f]; exact b x (by omega)
theorem term_mend {I0 I2 : SI} {J2 : SJ} (hW : W99 I0) (hR : RelN I0 I2) (h1 : 50 ≤ (I2 102 2).toInt) (h2 : (I2 102 2).toInt ≤ 90) (hb : 100 ≤ (I2 102 3).toInt) (h : ∀ v, v < 4 → rN J2 v + 2 * ssN J2 v ≤ 100000000) : TermR (loF I0) 10000000 I2 (mdA I2 (loF I0) J2 4) := term_of hW hR h1 h2 hb (by omega) (fun v hv => by
  have := (rN_mdA hW hR h 4 (Nat.le_refl _)).2 v hv
  have := h v hv
  omega)
