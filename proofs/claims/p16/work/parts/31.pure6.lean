/-! a walk of the class and of the reference, side by side -/
def RelW (w : Nat) (J1 J2 : SJ) : Prop := ∀ n, n < 9 → J1 (35 + w) n = J2 106 (9 * w + n) ∧ J1 (39 + w) n = J2 105 (9 * w + n) ∧ ∀ o, o < 9 → J1 (47 + 9 * w + n) o = J2 107 (81 * w + 9 * n + o)
/-- of the class's rows those of walk v alone are changed -/
def fC (v : Nat) (J J' : SJ) : Prop := ∀ a, a ≠ 35 + v → a ≠ 39 + v → (a < 47 + 9 * v ∨ 56 + 9 * v ≤ a) → J' a = J a
/-- of the reference's -/
def fR (v : Nat) (J J' : SJ) : Prop := ∀ a q, (a = 105 → q < 9 * v ∨ 9 * v + 9 ≤ q) → (a = 106 → q < 9 * v ∨ 9 * v + 9 ≤ q) → (a = 107 → q < 81 * v ∨ 81 * v + 81 ≤ q) → J' a q = J a q
theorem fC.rf {v : Nat} {J : SJ} : fC v J J := fun _ _ _ _ => rfl
theorem fR.rf {v : Nat} {J : SJ} : fR v J J := fun _ _ _ _ _ => rfl
theorem fC.tr {v : Nat} {A B D : SJ} (h : fC v A B) (g : fC v B D) : fC v A D := fun a x y z => (g a x y z).trans (h a x y z)
theorem fR.tr {v : Nat} {A B D : SJ} (h : fR v A B) (g : fR v B D) : fR v A D := fun a q x y z => (g a q x y z).trans (h a q x y z)
theorem RelW.fC {v w : Nat} {J1 J1' J2 : SJ} (hv : v < 4) (hw : w < 4) (hne : w ≠ v) (h : RelW w J1 J2) (f : fC v J1 J1') : RelW w J1' J2 := fun n hn => by
  obtain ⟨a, b, d⟩ := h n hn
  exact ⟨by rw [f _ (by omega) (by omega) (by omega)]; exact a, by rw [f _ (by omega) (by omega) (by omega)]; exact b, fun o ho => by rw [f _ (by omega) (by omega) (by omega)]; exact d o ho⟩
theorem RelW.fR {v w : Nat} {J1 J2 J2' : SJ} (hv : v < 4) (hw : w < 4) (hne : w ≠ v) (h : RelW w J1 J2) (f : fR v J2 J2') : RelW w J1 J2' := fun n hn => by
  obtain ⟨a, b, d⟩ := h n hn
  exact ⟨by rw [f _ _ (by omega) (by omega) (by omega)]; exact a, by rw [f _ _ (by omega) (by omega) (by omega)]; exact b, fun o ho => by rw [f _ _ (by omega) (by omega) (by omega)]; exact d o ho⟩
theorem fC_J {J : SJ} {v a : Nat} {i : Nat} {x : Int64} (h : a = 35 + v ∨ a = 39 + v ∨ (47 + 9 * v ≤ a ∧ a < 56 + 9 * v)) : fC v J (st2 J a i x) := fun b p q r => st2_k _ _ (by omega)
theorem fR_J {J : SJ} {v a i : Nat} {x : Int64} (h : (a = 105 ∧ 9 * v ≤ i ∧ i < 9 * v + 9) ∨ (a = 106 ∧ 9 * v ≤ i ∧ i < 9 * v + 9) ∨ (a = 107 ∧ 81 * v ≤ i ∧ i < 81 * v + 81)) : fR v J (st2 J a i x) := fun b q p1 p2 p3 => st2_n _ _ (by omega)
section Sides
variable {I0 I1 I2 : SI} (hF : NetFull I0 I1) (hW : W99 I0) (hR : RelN I0 I2)
abbrev cnF (I0 : SI) : Nat → Nat := fun n => cN I0 n 9
theorem fC_send {J : SJ} {v n : Nat} {u : Int64} (hF : NetFull I0 I1) (hW : W99 I0) (hv : v < 4) (hn : n < 9) : fC v J (sendJ I1 (cnF I0) (nbF I0) J v n u) := fun a p q r => (sendJ_eq hF hW hv hn).2.2 a q (by omega)
theorem lo_9 {v n : Nat} (hv : v < 4) : loF I0 v n < 9 := by
  unfold loF
  split
  · exact (nbS_ok 9 ‹_›).1
  · omega
theorem fR_send {J : SJ} {v n : Nat} {u : Int64} (hv : v < 4) (hn : n < 9) : fR v J (sendM I2 J v n u (loF I0 v n)) := fun a q p1 p2 p3 => (sendM_eq hv hn (lo_9 hv)).2.2 a q p1 (by omega)
theorem rel_send {J1 J2 : SJ} {v n : Nat} {u : Int64} (hF : NetFull I0 I1) (hW : W99 I0) (hR : RelN I0 I2) (hv : v < 4) (hn : n < 9) (h : RelW v J1 J2) : RelW v (sendJ I1 (cnF I0) (nbF I0) J1 v n u) (sendM I2 J2 v n u (loF I0 v n)) := fun m hm => by
  obtain ⟨c1, c2, c3⟩ := sendJ_eq hF hW (J := J1) (u := u) hv hn
  obtain ⟨d1, d2, d3⟩ := sendM_eq (I := I2) (J := J2) (u := u) hv hn (lo_9 (I0 := I0) (n := n) hv)
  obtain ⟨a, b, e⟩ := h m hm
  refine ⟨?_, ?_, fun o ho => ?_⟩
  · rw [c3 _ (by omega) (by omega), d3 _ _ (by omega) (by omega)]; exact a
  · rw [c1 m hm, d1 m hm, gift_eq hR hW hv hn hm, b]
  · by_cases q : m = n
    · subst q
      rw [c2 o ho, d2 o ho, gift_eq hR hW hv hn ho, e o ho]
    · rw [c3 _ (by omega) (by omega), d3 _ _ (by omega) (by omega)]; exact e o ho
theorem rel_land {J1 J2 : SJ} {v n : Nat} {d : Int32} (hn : n < 9) (hd : d = I2 102 2) (h : RelW v J1 J2) : landF J1 v n d = landM I2 J2 v n := by
  unfold landF landM
  rw [(h n hn).2.1, hd]
theorem rel_push {J1 J2 : SJ} {v n : Nat} {d : Int32} (hF : NetFull I0 I1) (hW : W99 I0) (hR : RelN I0 I2) (hv : v < 4) (hn : n < 9) (hd : d = I2 102 2) (h : RelW v J1 J2) :
    RelW v (pushJ I1 (cnF I0) (nbF I0) J1 v n d) (pushM I2 (loF I0) J2 v n) ∧ fC v J1 (pushJ I1 (cnF I0) (nbF I0) J1 v n d) ∧ fR v J2 (pushM I2 (loF I0) J2 v n) := by
  unfold pushJ pushM
  rw [rel_land hn hd h, (h n hn).2.1]
  refine ⟨rel_send hF hW hR hv hn (fun m hm => ?_), ?_, ?_⟩
  · obtain ⟨a, b, e⟩ := h m hm
    refine ⟨?_, ?_, fun o ho => ?_⟩
    · by_cases q : m = n
      · subst q
        rw [st2_s, st2_s, st2_n _ _ (by omega), st2_n _ _ (by omega), a]
      · rw [st2_n _ _ (by omega), st2_n _ _ (by omega), st2_n _ _ (by omega), st2_n _ _ (by omega), a]
    · by_cases q : m = n
      · subst q
        rw [st2_n _ _ (by omega), st2_s, st2_n _ _ (by omega), st2_s]
      · rw [st2_n _ _ (by omega), st2_n _ _ (by omega), st2_n _ _ (by omega), st2_n _ _ (by omega), b]
    · rw [st2_n _ _ (by omega), st2_n _ _ (by omega), st2_n _ _ (by omega), st2_n _ _ (by omega), e o ho]
  · exact ((fC_J (by omega)).tr (fC_J (by omega))).tr (fC_send hF hW hv hn)
  · exact ((fR_J (by omega)).tr (fR_J (by omega))).tr (fR_send hv hn)
theorem rel_un {J1 J2 : SJ} {v : Nat} {bd : Int32} (h : RelW v J1 J2) : ∀ t j, j + t ≤ 9 → lowF J1 v bd t j = nxF J2 v bd t j
  | 0, _, _ => rfl
  | t + 1, j, q => by
    unfold lowF nxF unB unM
    rw [(h j (by omega)).2.1, rel_un h t (j + 1) (by omega)]
theorem rel_tk {J1 J2 : SJ} {v n : Nat} (hv : v < 4) (hn : n < 9) (h : RelW v J1 J2) : ∀ o, o ≤ 9 → (tbL J1 v n o).1 = (tkM J2 v n o).1 ∧ RelW v (tbL J1 v n o).2 (tkM J2 v n o).2 ∧ fC v J1 (tbL J1 v n o).2 ∧ fR v J2 (tkM J2 v n o).2
  | 0, _ => ⟨rfl, h, fC.rf, fR.rf⟩
  | o + 1, ho => by
    obtain ⟨a, b, x, y⟩ := rel_tk hv hn h o (by omega)
    have c9 := (b n hn).2.2 o (by omega)
    unfold tbL tkM
    dsimp only
    rw [a, c9, (b o (by omega)).2.1]
    refine ⟨rfl, fun m hm => ?_, (x.tr (fC_J (by omega))).tr (fC_J (by omega)), (y.tr (fR_J (by omega))).tr (fR_J (by omega))⟩
    obtain ⟨e1, e2, e3⟩ := b m hm
    refine ⟨?_, ?_, fun q hq => ?_⟩
    · rw [st2_n _ _ (by omega), st2_n _ _ (by omega), st2_n _ _ (by omega), st2_n _ _ (by omega), e1]
    · by_cases z : m = o
      · subst z
        rw [st2_n _ _ (by omega), st2_s, st2_n _ _ (by omega), st2_s]
      · rw [st2_n _ _ (by omega), st2_n _ _ (by omega), st2_n _ _ (by omega), st2_n _ _ (by omega), e2]
    · by_cases z : m = n ∧ q = o
      · obtain ⟨z1, z2⟩ := z
        subst z1 z2
        rw [st2_s, st2_s]
      · rw [st2_n _ _ (by omega), st2_n _ _ (by omega), st2_n _ _ (by omega), st2_n _ _ (by omega), e3 q hq]
theorem rel_md {J1 J2 : SJ} {v : Nat} (hF : NetFull I0 I1) (hW : W99 I0) (hR : RelN I0 I2) (hv : v < 4) (h : RelW v J1 J2) : ∀ n, n ≤ 9 → RelW v (mdL I1 (cnF I0) (nbF I0) J1 v n) (mdM I2 (loF I0) J2 v n) ∧ fC v J1 (mdL I1 (cnF I0) (nbF I0) J1 v n) ∧ fR v J2 (mdM I2 (loF I0) J2 v n)
  | 0, _ => ⟨h, fC.rf, fR.rf⟩
  | n + 1, hn => by
    obtain ⟨b, x, y⟩ := rel_md hF hW hR hv h n (by omega)
    obtain ⟨a, b2, x2, y2⟩ := rel_tk hv (by omega : n < 9) b 9 (Nat.le_refl _)
    unfold mdL mdM
    rw [a]
    exact ⟨rel_send hF hW hR hv (by omega) b2, (x.tr x2).tr (fC_send hF hW hv (by omega)), (y.tr y2).tr (fR_send hv (by omega))⟩
end Sides
