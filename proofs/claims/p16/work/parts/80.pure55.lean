/-! worlds put together; what a fresh object holds -/
def adJ (n : Nat) (ad : Nat → Nat) (b k : Nat) : Nat := if k < n then ad k else b + (k - n)
theorem adJ_lo {n : Nat} {ad : Nat → Nat} {b k : Nat} (h : k < n) : adJ n ad b k = ad k := if_pos h
theorem adJ_hi {n : Nat} {ad : Nat → Nat} {b k : Nat} (h : n ≤ k) : adJ n ad b k = b + (k - n) := if_neg (by omega)
theorem kd_objs : ∀ k, k < 116 → kd k = 0 → k = 0 ∨ k = 1 ∨ k = 31 ∨ k = 32 ∨ k = 33 ∨ k = 34 ∨ k = 83 ∨ k = 87 ∨ k = 100 ∨ k = 102 := by decide +kernel
theorem kd_rows : ∀ k, k < 116 → kd k = 5 → rb k + ln k ≤ 102 := by decide +kernel
theorem kd_all : ∀ k, k < 116 → kd k = 0 ∨ kd k = 1 ∨ kd k = 2 ∨ kd k = 3 ∨ kd k = 4 ∨ kd k = 5 := by decide +kernel
theorem ent_adJ {n : Nat} (hn : n = 102 ∨ n = 114) {cA : Nat → ClassId} {ad : Nat → Nat} {b : Nat} {I : SI} {J : SJ} {X : SX} {k : Nat} (hk : k < n) : ent cA (adJ n ad b) I J X k = ent cA ad I J X k := by
  have e : ∀ j, j < n → adJ n ad b j = ad j := fun j h => adJ_lo h
  rcases kd_all k (by omega) with q | q | q | q | q | q
  · rw [ent_o q, ent_o q]
    have e1 : fl (adJ n ad b) (I k) k = fl ad (I k) k := by
      rcases hn with r | r <;> subst r <;> rcases kd_objs k (by omega) q with r | r | r | r | r | r | r | r | r | r <;> first | (subst r; simp [fl, e]; done) | omega
    rw [e1]
  · rw [ent_i q, ent_i q]
  · rw [ent_j q, ent_j q]
  · rw [ent_x q, ent_x q]
  · rw [ent_b q, ent_b q]
  · rw [ent_q q, ent_q q]
    have h9 := kd_rows k (by omega) q
    have e1 : (fun i => if i < ln k then some (adJ n ad b (rb k + i)) else none) = fun i => if i < ln k then some (ad (rb k + i)) else none := by
      funext i
      by_cases h : i < ln k
      · rw [if_pos h, if_pos h, e _ (by omega)]
      · rw [if_neg h, if_neg h]
    rw [e1]
theorem wJoin {n N : Nat} (hn : n = 102 ∨ n = 114) {D : va_G} {cA : Nat → ClassId} {ad : Nat → Nat} {b : Nat} {I : SI} {J : SJ} {X : SX} {H : Heap} (h1 : WP n D cA ad I J X H) (h2 : ∀ k, n ≤ k → k < N → va_at D vwCl (b + (k - n), ent cA (adJ n ad b) I J X k) H) : WP N D cA (adJ n ad b) I J X H := by
  intro k x hx
  have hk : k < N := by
    have := (List.getElem?_eq_some_iff.mp hx).1
    unfold wld at this
    rw [List.length_map, List.length_range] at this
    exact this
  rw [wld_at hk] at hx
  cases hx
  by_cases h : k < n
  · have := h1 k _ (wld_at h)
    rw [ent_adJ hn h, adJ_lo h]
    exact this
  · have := h2 k (by omega) hk
    rw [adJ_hi (by omega)]
    exact this
theorem wp_lt {n : Nat} {D : va_G} {cA : Nat → ClassId} {ad : Nat → Nat} {I : SI} {J : SJ} {X : SX} {H : Heap} (h : WP n D cA ad I J X H) {k : Nat} (hk : k < n) : ad k < H.size := (h k _ (wld_at hk)).lt
theorem adJ_inj {n N : Nat} {ad : Nat → Nat} {b : Nat} (hi : inj n ad) (hb : ∀ k, k < n → ad k < b) : inj N (adJ n ad b) := by
  intro i j _ _ e
  by_cases h1 : i < n
  · by_cases h2 : j < n
    · rw [adJ_lo h1, adJ_lo h2] at e
      exact hi i j h1 h2 e
    · rw [adJ_lo h1, adJ_hi (by omega)] at e
      have := hb i h1
      omega
  · by_cases h2 : j < n
    · rw [adJ_hi (by omega), adJ_lo h2] at e
      have := hb j h2
      omega
    · rw [adJ_hi (by omega), adJ_hi (by omega)] at e
      omega
theorem call_begin0 {I : SI} {J : SJ} {X : SX} (hRI : RelN I I) (hW : W99 I) (hFI : NetFull I I) (hOI : offZ I) (hrd : ∀ w, w < 4 → I (31 + w) 1 = nI w) (hpc : pcS I 4 = I 102 4) (hX : ∀ i, i < 9 → X 99 i = X 110 i) (hsb : sbOK I) {C : SI} (c1 : ∀ a, a ≠ 0 → C a = I a) {I2 : SI} (r1 : ∀ a, a ≠ 102 → I2 a = (sqB I 10000000 C J 4).1 a) (r2 : I2 102 4 = (sqB I 10000000 C J 4).1 102 4) (hd2 : C 0 5 = I2 102 2) (hb2 : C 0 6 = I2 102 3) (hdb2 : dbOK I2) :
    BeginOK (cnF I) (nbF I) (fun w => (sqB I 10000000 C J w).1) (fun w => (sqB I 10000000 C J w).2) ∧
    SettOK (loF I) (fun v => (sqR (loF I) 10000000 I2 (beginM (sqB I 10000000 C J 4).2) v).1) (fun v => (sqR (loF I) 10000000 I2 (beginM (sqB I 10000000 C J 4).2) v).2) ∧
    Inv 0 (sqR (loF I) 10000000 I2 (beginM (sqB I 10000000 C J 4).2) 4).1 (sqR (loF I) 10000000 I2 (beginM (sqB I 10000000 C J 4).2) 4).2 X ∧
    ∀ a b, ¬ (a = 102 ∧ b = 4) → (sqR (loF I) 10000000 I2 (beginM (sqB I 10000000 C J 4).2) 4).1 a b = I2 a b := by
  have hF : NetFull I C := full_cg (fun _ _ _ => rfl) (fun a q1 q2 => c1 a (by omega)) hFI
  obtain ⟨I3, e3⟩ : ∃ I3 : SI, I3 = fun a => if a = 102 then I2 102 else I a := ⟨_, rfl⟩
  have a3 : ∀ a, a ≠ 102 → I3 a = I a := fun a q => by rw [e3]; dsimp only; rw [if_neg q]
  have b3 : I3 102 = I2 102 := by rw [e3]; dsimp only; rw [if_pos rfl]
  have hR3 : RelN I I3 := ⟨fun r b hr hb => by rw [a3 103 (by decide)]; exact hRI.1 r b hr hb, fun b hb => by rw [a3 104 (by decide)]; exact hRI.2 b hb⟩
  have hdb3 : dbOK I3 := by unfold dbOK; rw [b3]; exact hdb2
  obtain ⟨hT3, -⟩ := begins_dr (J2 := J) hW hR3 hdb3
  obtain ⟨⟨gI, -, -, -⟩, -, -⟩ := rel_begins (J1 := J) hW hF hR3 (by rw [b3]; exact hd2) (by rw [b3]; exact hb2) hT3 4 (Nat.le_refl _)
  have gI : ∀ x y, (x < 31 ∨ 35 ≤ x ∨ y ≠ 5) → (sqB I 10000000 C J 4).1 x y = C x y := gI
  have hR : RelN I I2 := ⟨fun r b hr hb => by rw [r1 103 (by decide), gI 103 _ (by omega), c1 103 (by decide)]; exact hRI.1 r b hr hb, fun b hb => by rw [r1 104 (by decide), gI 104 _ (by omega), c1 104 (by decide)]; exact hRI.2 b hb⟩
  obtain ⟨hT, hDr2⟩ := begins_dr (J2 := (sqB I 10000000 C J 4).2) hW hR hdb2
  have hrd2 : ∀ w, w < 4 → C (31 + w) 1 = nI w := fun w hw => by rw [c1 _ (by omega)]; exact hrd w hw
  obtain ⟨mk1, mk2⟩ := begin_ok (F := 10000000) (J1 := J) (Nat.le_refl _) hW hF hR hd2 hb2 hrd2 hT
  obtain ⟨⟨-, s2, ⟨t, s3, s4⟩, s5⟩, -, -⟩ := rel_begins (J1 := J) hW hF hR hd2 hb2 hT 4 (Nat.le_refl _)
  have tJ : ∀ a, a < 105 → (sqR (loF I) 10000000 I2 (beginM (sqB I 10000000 C J 4).2) 4).2 a = (sqB I 10000000 C J 4).2 a := fun a ha => (sqR_far hT 4 (Nat.le_refl _) a ha).trans (begM_far ha)
  refine ⟨mk1, mk2, ?_, s2⟩
  generalize sqR (loF I) 10000000 I2 (beginM (sqB I 10000000 C J 4).2) 4 = T at *
  have tI : ∀ x y, x ≠ 102 → T.1 x y = (sqB I 10000000 C J 4).1 x y := fun x y q1 => by rw [s2 x y (by omega), r1 x q1]
  have tF : ∀ a, 1 ≤ a → (a < 31 ∨ 35 ≤ a) → a ≠ 102 → T.1 a = I a := fun a q1 q2 q3 => funext fun y => by rw [tI a y q3, gI a y (by omega), c1 a (by omega)]
  have td : T.1 102 2 = I2 102 2 := s2 102 2 (by omega)
  have tb : T.1 102 3 = I2 102 3 := s2 102 3 (by omega)
  refine ⟨⟨fun r b hr hb => ?_, fun b hb => ?_⟩, w99_far hW (fun a b q1 q2 => by rw [tF a (by omega) (by omega) (by omega)]), full_cg (fun a q1 q2 => tF a (by omega) (by omega) (by omega)) (fun a q1 q2 => tF a (by omega) (by omega) (by omega)) hFI, offZ_cg (fun a q1 q2 => tF a (by omega) (by omega) (by omega)) hOI, ?_, ?_, ?_, fun w hw => ?_, fun w hw => RelW_to hw (fun a ha => tJ a (by omega)) (s5 w hw), ?_, DrA_of td tb (fun _ _ _ => rfl) hDr2, hX, ?_⟩
  · rw [tF (3 + r) (by omega) (by omega) (by omega), tF 103 (by omega) (by omega) (by omega)]; exact hRI.1 r b hr hb
  · rw [tF 7 (by omega) (by omega) (by omega), tF 104 (by omega) (by omega) (by omega)]; exact hRI.2 b hb
  · rw [tI 0 5 (by decide), gI 0 5 (by omega), td]; exact hd2
  · rw [tI 0 6 (by decide), gI 0 6 (by omega), tb]; exact hb2
  · unfold dbOK; rw [td, tb]; exact hdb2
  · rw [tI _ 1 (by omega), gI _ 1 (by omega)]; exact hrd2 w hw
  · have e1 : pcS T.1 4 = pcS (sqB I 10000000 C J 4).1 4 := pcS_cg (fun w hw => tI _ 5 (by omega)) 4 (Nat.le_refl _)
    have e2 : pcS C 4 = pcS I 4 := pcS_cg (fun w hw => by rw [c1 _ (by omega)]) 4 (Nat.le_refl _)
    rw [e1, s3, s4, e2, hpc, r2, gI 102 4 (by omega), c1 102 (by decide)]
  · obtain ⟨b1, n, b2, b3⟩ := hsb
    refine ⟨?_, n, b2, ?_⟩
    · rw [tF 100 (by decide) (by omega) (by decide)]; exact b1
    · rw [tF 100 (by decide) (by omega) (by decide)]; exact b3
/-- a fresh object's rows -/
theorem i0_z {k i : Nat} (h : ¬ (k = 0 ∧ (i = 5 ∨ i = 6)) ∧ ¬ (k = 102 ∧ (i = 2 ∨ i = 3)) ∧ (k < 31 ∨ 35 ≤ k)) : I0 k i = 0 := by
  unfold I0
  rw [if_neg (by omega), if_neg (by omega), if_neg (by omega), if_neg (by omega), if_neg (by omega)]
theorem w0_z (r b : Nat) (hr : r < 4) : wOf I0 r b = 0 := by
  unfold wOf
  rw [i0_z (by omega), if_neg (by decide), i0_z (by omega)]
theorem wm0_z (n o : Nat) : wM I0 n o = 0 := by
  unfold wM
  by_cases h : n < 4
  · rw [if_pos h]
    by_cases g : o < 4
    · rw [if_pos g]
    · rw [if_neg g, w0_z _ _ h]
  · rw [if_neg h]
    by_cases g : o < 4
    · rw [if_pos g, w0_z _ _ g]
    · rw [if_neg g]
theorem cn0_z (n : Nat) : ∀ m, cN I0 n m = 0
  | 0 => rfl
  | m + 1 => by unfold cN; rw [cn0_z n m, wm0_z, if_neg (by decide)]
theorem sm0_z (n : Nat) : ∀ m, sM I0 n m = 0
  | 0 => rfl
  | m + 1 => by unfold sM; rw [sm0_z n m, wm0_z]; rfl
theorem rel0 : RelN I0 I0 := ⟨fun r b hr hb => by rw [i0_z (by omega), i0_z (by omega)], fun b hb => by rw [i0_z (by omega), i0_z (by omega)]⟩
theorem w990 : W99 I0 := fun r b hr hb => by rw [i0_z (by omega)]; exact ⟨by decide, by decide⟩
theorem full0 : NetFull I0 I0 := fun n hn => ⟨fun o ho => by rw [i0_z (by omega), wm0_z], by rw [i0_z (by omega), cn0_z]; rfl, fun o ho hw => absurd hw (by rw [wm0_z]; decide), by rw [i0_z (by omega), sm0_z]⟩
theorem offz0 : offZ I0 := fun n o hn ho _ => i0_z (by omega)
theorem rd0 : ∀ w, w < 4 → I0 (31 + w) 1 = nI w := fun w hw => by
  unfold I0
  rw [if_neg (by omega), if_neg (by omega), if_neg (by omega), if_neg (by omega), if_pos (by omega), Nat.add_sub_cancel_left]
theorem pc0 : pcS I0 4 = I0 102 4 := by decide +kernel
theorem sb0 : sbOK I0 := ⟨i0_z (by omega), 0, by decide, i0_z (by omega)⟩
theorem db0 : dbOK I0 := ⟨by decide, by decide, by decide, by decide⟩
theorem x0_e : ∀ i, i < 9 → X0 99 i = X0 110 i := fun _ _ => rfl
theorem sqB_frI {I C I2 : SI} {J1 : SJ} (hW : W99 I) (hF : NetFull I C) (hR : RelN I I2) (hd : C 0 5 = I2 102 2) (hb : C 0 6 = I2 102 3) (hdb : dbOK I2) : (∀ x y, (x < 31 ∨ 35 ≤ x ∨ y ≠ 5) → (sqB I 10000000 C J1 4).1 x y = C x y) ∧ ∀ a, 83 ≤ a → (sqB I 10000000 C J1 4).2 a = J1 a := by
  obtain ⟨hT, -⟩ := begins_dr (J2 := J1) hW hR hdb
  obtain ⟨⟨gI, -, -, -⟩, -, -⟩ := rel_begins (J1 := J1) hW hF hR hd hb hT 4 (Nat.le_refl _)
  exact ⟨gI, sqB_far hW hF hR hd hb hT 4 (Nat.le_refl _)⟩
/-- a beginning call on a world that tells itself -/
theorem begin_self {I : SI} {J : SJ} {X : SX} (hRI : RelN I I) (hW : W99 I) (hFI : NetFull I I) (hOI : offZ I) (hrd : ∀ w, w < 4 → I (31 + w) 1 = nI w) (hpc : pcS I 4 = I 102 4) (hX : ∀ i, i < 9 → X 99 i = X 110 i) (hsb : sbOK I) (hd : I 0 5 = I 102 2) (hb : I 0 6 = I 102 3) (hdb : dbOK I) {S : SI × SJ} (hS : S = sqB I 10000000 I J 4) :
    (∀ x y, (x < 31 ∨ 35 ≤ x ∨ y ≠ 5) → S.1 x y = I x y) ∧ (∀ a, 83 ≤ a → S.2 a = J a) ∧ BeginOK (cnF I) (nbF I) (fun w => (sqB I 10000000 I J w).1) (fun w => (sqB I 10000000 I J w).2) ∧ SettOK (loF I) (fun v => (sqR (loF I) 10000000 S.1 (beginM S.2) v).1) (fun v => (sqR (loF I) 10000000 S.1 (beginM S.2) v).2) ∧ Inv 0 (sqR (loF I) 10000000 S.1 (beginM S.2) 4).1 (sqR (loF I) 10000000 S.1 (beginM S.2) 4).2 X ∧
    (∀ a b, ¬ (a = 102 ∧ b = 4) → (sqR (loF I) 10000000 S.1 (beginM S.2) 4).1 a b = S.1 a b) := by
  obtain ⟨f1, f2⟩ := sqB_frI (J1 := J) hW hFI hRI hd hb hdb
  rw [← hS] at f1 f2
  have h2 := f1 102 2 (by omega)
  have h3 := f1 102 3 (by omega)
  have hk := call_begin0 (J := J) (X := X) hRI hW hFI hOI hrd hpc hX hsb (C := I) (fun _ _ => rfl) (I2 := S.1) (fun a _ => by rw [hS]) (by rw [hS]) (by rw [h2]; exact hd) (by rw [h3]; exact hb) (by unfold dbOK; rw [h2, h3]; exact hdb)
  rw [← hS] at hk
  exact ⟨f1, f2, hk⟩
/-- the class's world behind its constructor; the reference's behind its own -/
def CS : SI × SJ := sqB I0 10000000 I0 J0 4
def RS (v : Nat) : SI × SJ := sqR (loF I0) 10000000 CS.1 (beginM CS.2) v
theorem start_all : (∀ x y, (x < 31 ∨ 35 ≤ x ∨ y ≠ 5) → CS.1 x y = I0 x y) ∧ (∀ a, 83 ≤ a → CS.2 a = J0 a) ∧ BeginOK (cnF I0) (nbF I0) (fun w => (sqB I0 10000000 I0 J0 w).1) (fun w => (sqB I0 10000000 I0 J0 w).2) ∧ SettOK (loF I0) (fun v => (RS v).1) (fun v => (RS v).2) ∧ Inv 0 (RS 4).1 (RS 4).2 X0 ∧ (∀ a b, ¬ (a = 102 ∧ b = 4) → (RS 4).1 a b = CS.1 a b) := by
  unfold RS
  exact begin_self rel0 w990 full0 offz0 rd0 pc0 x0_e sb0 rfl rfl db0 (by unfold CS; rfl)
theorem cs_I : ∀ x y, (x < 31 ∨ 35 ≤ x ∨ y ≠ 5) → CS.1 x y = I0 x y := start_all.1
theorem cs_J : ∀ a, 83 ≤ a → CS.2 a = J0 a := start_all.2.1
