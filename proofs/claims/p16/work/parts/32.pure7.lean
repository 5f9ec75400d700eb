/-! settling, side by side -/
theorem full_far {I0 I I' : SI} (h : NetFull I0 I) (e : ∀ a b, a < 31 → I' a b = I a b) : NetFull I0 I' := fun n hn => by
  obtain ⟨g1, g2, g3, g4⟩ := h n hn
  exact ⟨fun o ho => by rw [e _ _ (by omega)]; exact g1 o ho, by rw [e _ _ (by omega)]; exact g2, fun o ho w => by rw [e _ _ (by omega)]; exact g3 o ho w, by rw [e _ _ (by omega)]; exact g4⟩
theorem relN_far {I0 I I' : SI} (h : RelN I0 I) (e : ∀ a b, a ≠ 102 → I' a b = I a b) : RelN I0 I' := ⟨fun r b hr hb => by rw [e _ _ (by omega)]; exact h.1 r b hr hb, fun b hb => by rw [e _ _ (by omega)]; exact h.2 b hb⟩
theorem i_ass (a t : Int32) : a + 1 + t = a + (1 + t) := by grind
/-- where the reference settles, the class does, alike -/
theorem rel_run {I0 : SI} {v : Nat} {d bd : Int32} (hW : W99 I0) (hv : v < 4) : ∀ (f : Nat) (I1 I2 : SI) (J1 J2 : SJ), NetFull I0 I1 → RelN I0 I2 → d = I2 102 2 → bd = I2 102 3 → RelW v J1 J2 → ∀ I2' J2', runM (loF I0) v f I2 J2 = some (I2', J2') →
    ∃ I1' J1', runF (cnF I0) (nbF I0) v d bd f I1 J1 = some (I1', J1') ∧ RelW v J1' J2' ∧ fC v J1 J1' ∧ fR v J2 J2' ∧ (∀ a b, ¬ (a = 31 + v ∧ b = 5) → I1' a b = I1 a b) ∧ (∀ a b, ¬ (a = 102 ∧ b = 4) → I2' a b = I2 a b) ∧ ∃ t : Int32, I1' (31 + v) 5 = I1 (31 + v) 5 + t ∧ I2' 102 4 = I2 102 4 + t := by
  intro f
  induction f with
  | zero =>
    intro I1 I2 J1 J2 hF hR hd hb h I2' J2' hr
    unfold runM at hr
    unfold runF
    have e := rel_un (bd := bd) h 9 0 (Nat.le_refl _)
    rw [hb] at e ⊢
    rw [e]
    by_cases c : nxF J2 v (I2 102 3) 9 0 = -1
    · rw [if_pos c] at hr ⊢
      cases hr
      exact ⟨I1, J1, rfl, h, fC.rf, fR.rf, fun _ _ _ => rfl, fun _ _ _ => rfl, 0, (Int32.add_zero _).symm, (Int32.add_zero _).symm⟩
    · rw [if_neg c] at hr
      cases hr
  | succ f ih =>
    intro I1 I2 J1 J2 hF hR hd hb h I2' J2' hr
    unfold runM at hr
    unfold runF
    have e := rel_un (bd := bd) h 9 0 (Nat.le_refl _)
    by_cases c : nxF J2 v (I2 102 3) 9 0 = -1
    · rw [if_pos c] at hr
      rw [e, hb, if_pos c]
      cases hr
      exact ⟨I1, J1, rfl, h, fC.rf, fR.rf, fun _ _ _ => rfl, fun _ _ _ => rfl, 0, (Int32.add_zero _).symm, (Int32.add_zero _).symm⟩
    · rw [if_neg c] at hr
      rw [e, hb, if_neg c]
      rcases nxF_or1 (J := J2) (v := v) (bd := I2 102 3) 9 0 with q | ⟨n, q1, q2, q3⟩
      · exact absurd q c
      · rw [q3] at hr ⊢
        have hn : n < 9 := by omega
        rw [nI_clamp (by omega)] at hr ⊢
        obtain ⟨r1, r2, r3⟩ := rel_push (d := d) hF hW hR hv hn hd h
        obtain ⟨I1', J1', k1, k2, k3, k4, k5, k6, t, k7, k8⟩ := ih (pushI I1 v) (pushMI I2) _ _ (full_far hF (fun a b q => st2_n _ _ (by omega))) (relN_far hR (fun a b q => st2_n _ _ (by omega))) (hd.trans (st2_n _ _ (by omega)).symm) (hb.trans (st2_n _ _ (by omega)).symm) r1 I2' J2' hr
        rw [← hb]
        refine ⟨I1', J1', k1, k2, r2.tr k3, r3.tr k4, fun a b q => (k5 a b q).trans (st2_n _ _ q), fun a b q => (k6 a b q).trans (st2_n _ _ q), 1 + t, ?_, ?_⟩
        · rw [k7]
          unfold pushI
          rw [st2_s, i_ass]
        · rw [k8]
          unfold pushMI
          rw [st2_s, i_ass]
