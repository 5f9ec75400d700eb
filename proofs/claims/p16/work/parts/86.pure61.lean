/-! no unit is lost: of each node of each walk -/
def sL (f : Nat → Int64) : Nat → Int64
  | 0 => 0
  | m + 1 => sL f m + f m
theorem sL_congr {f g : Nat → Int64} : ∀ m, (∀ p, p < m → f p = g p) → sL f m = sL g m
  | 0, _ => rfl
  | m + 1, h => by unfold sL; rw [sL_congr m (fun p hp => h p (by omega)), h m (Nat.lt_succ_self m)]
theorem sL_add (f g : Nat → Int64) : ∀ m, sL (fun p => f p + g p) m = sL f m + sL g m
  | 0 => rfl
  | m + 1 => by unfold sL; rw [sL_add f g m]; grind
theorem sL_one {u : Int64} {n : Nat} : ∀ m, sL (fun p => if p = n then u else 0) m = if n < m then u else 0
  | 0 => rfl
  | m + 1 => by
    unfold sL
    rw [sL_one m]
    by_cases e : m = n
    · subst e
      rw [if_pos rfl, if_neg (by omega), if_pos (by omega)]; grind
    · rw [if_neg e]
      by_cases q : n < m
      · rw [if_pos q, if_pos (by omega)]; grind
      · rw [if_neg q, if_neg (by omega)]; grind
theorem sL_zero : ∀ m, sL (fun _ => 0) m = 0
  | 0 => rfl
  | m + 1 => by unfold sL; rw [sL_zero m]; rfl
theorem sL_swap (f : Nat → Nat → Int64) (a : Nat) : ∀ b, sL (fun n => sL (fun k => f n k) a) b = sL (fun k => sL (fun n => f n k) b) a
  | 0 => by
    show 0 = sL (fun _ => 0) a
    rw [sL_zero]
  | b + 1 => by
    have e : sL (fun k => sL (fun n => f n k) (b + 1)) a = sL (fun k => sL (fun n => f n k) b + f b k) a := rfl
    rw [e, sL_add, ← sL_swap f a b]
    rfl
/-- what node k of walk v sent, what was sent to it -/
def soJ (J : SJ) (v k : Nat) : Int64 := sL (fun o => J (47 + 9 * v + k) o) 9
def siJ (J : SJ) (v k : Nat) : Int64 := sL (fun n => J (47 + 9 * v + n) k) 9
def K9 (J : SJ) (v k : Nat) : Int64 := J (35 + v) k + J (39 + v) k + soJ J v k - siJ J v k
theorem K9_fC {J J' : SJ} {w v k : Nat} (hw : w < 4) (hv : v < 4) (hne : v ≠ w) (hk : k < 9) (f : fC w J J') : K9 J' v k = K9 J v k := by
  unfold K9 soJ siJ
  rw [f _ (by omega) (by omega) (by omega), f _ (by omega) (by omega) (by omega), f _ (by omega) (by omega) (by omega), sL_congr (f := fun n => J' (47 + 9 * v + n) k) (g := fun n => J (47 + 9 * v + n) k) 9 (fun n hn => by rw [f (47 + 9 * v + n) (by omega) (by omega) (by omega)])]
theorem give_at {J : SJ} {w n o : Nat} {u : Int64} (hw : w < 4) (a b : Nat) : giveJ J w n o u a b = J a b + (if a = 39 + w ∧ b = o then u else 0) + (if a = 47 + 9 * w + n ∧ b = o then u else 0) := by
  unfold giveJ
  by_cases h2 : a = 47 + 9 * w + n ∧ b = o
  · obtain ⟨rfl, rfl⟩ := h2
    rw [st2_s, st2_n _ _ (by omega), if_neg (by omega), if_pos ⟨rfl, rfl⟩]; grind
  · rw [st2_n _ _ h2, if_neg h2]
    by_cases h1 : a = 39 + w ∧ b = o
    · obtain ⟨rfl, rfl⟩ := h1
      rw [st2_s, if_pos ⟨rfl, rfl⟩]; grind
    · rw [st2_n _ _ h1, if_neg h1]; grind
theorem K_give {J : SJ} {w n o v k : Nat} {u : Int64} (hw : w < 4) (hn : n < 9) (ho : o < 9) (hv : v < 4) (hk : k < 9) : K9 (giveJ J w n o u) v k = K9 J v k + (if v = w ∧ k = n then u else 0) := by
  have e1 : soJ (giveJ J w n o u) v k = soJ J v k + (if v = w ∧ k = n then u else 0) := by
    unfold soJ
    rw [sL_congr (g := fun b => J (47 + 9 * v + k) b + (if b = o then (if v = w ∧ k = n then u else 0) else 0)) 9 (fun b hb => by
      rw [give_at hw, if_neg (by omega)]
      by_cases q : v = w ∧ k = n
      · rw [if_pos q]
        by_cases r : b = o
        · rw [if_pos ⟨by omega, r⟩, if_pos r]; grind
        · rw [if_neg (fun z => r z.2), if_neg r]; grind
      · rw [if_neg q, if_neg (fun z => q (by omega))]; split <;> grind)]
    rw [sL_add, sL_one, if_pos ho]
  have e2 : siJ (giveJ J w n o u) v k = siJ J v k + (if v = w ∧ k = o then u else 0) := by
    unfold siJ
    rw [sL_congr (g := fun m => J (47 + 9 * v + m) k + (if m = n then (if v = w ∧ k = o then u else 0) else 0)) 9 (fun m hm => by
      rw [give_at hw, if_neg (by omega)]
      by_cases q : v = w ∧ k = o
      · rw [if_pos q]
        by_cases r : m = n
        · rw [if_pos ⟨by omega, q.2⟩, if_pos r]; grind
        · rw [if_neg (fun z => r (by omega)), if_neg r]; grind
      · rw [if_neg q, if_neg (fun z => q (by omega))]; split <;> grind)]
    rw [sL_add, sL_one, if_pos hn]
  have r1 : giveJ J w n o u (35 + v) k = J (35 + v) k := by
    rw [give_at hw, if_neg (by omega), if_neg (by omega)]; grind
  have r2 : giveJ J w n o u (39 + v) k = J (39 + v) k + (if v = w ∧ k = o then u else 0) := by
    rw [give_at hw]
    by_cases q : v = w ∧ k = o
    · rw [if_pos q, if_pos (show 39 + v = 39 + w ∧ k = o by omega), if_neg (show ¬ (39 + v = 47 + 9 * w + n ∧ k = o) by omega)]; grind
    · rw [if_neg q, if_neg (show ¬ (39 + v = 39 + w ∧ k = o) by omega), if_neg (show ¬ (39 + v = 47 + 9 * w + n ∧ k = o) by omega)]; grind
  unfold K9
  rw [e1, e2, r1, r2]
  grind
theorem K_sendL {I : SI} {nb : Nat → Nat → Nat} {J : SJ} {w n v k : Nat} {u : Int64} (hw : w < 4) (hn : n < 9) (hv : v < 4) (hk : k < 9) : ∀ j, (∀ i, i < j → nb n (i + 1) < 9) → K9 (sendL I nb J w n u j).2 v k = K9 J v k + (if v = w ∧ k = n then u - (sendL I nb J w n u j).1 else 0)
  | 0, _ => by unfold sendL; split <;> grind
  | j + 1, h => by
    have ih := K_sendL (I := I) (nb := nb) (J := J) (u := u) hw hn hv hk j (fun i hi => h i (by omega))
    unfold sendL
    dsimp only
    rw [K_give hw hn (h j (by omega)) hv hk, ih]
    split <;> grind
theorem K_send {I : SI} {cn : Nat → Nat} {nb : Nat → Nat → Nat} {J : SJ} {w n v k : Nat} {u : Int64} (hN : NetOK I cn nb) (hw : w < 4) (hn : n < 9) (hv : v < 4) (hk : k < 9) : K9 (sendJ I cn nb J w n u) v k = K9 J v k + (if v = w ∧ k = n then u else 0) := by
  obtain ⟨-, h2, h3⟩ := hN n hn
  unfold sendJ
  by_cases q : cn n = 0 ∨ I 29 n = 0
  · rw [if_pos q]; exact K_give hw hn (by omega) hv hk
  · rw [if_neg q, K_give hw hn (h3 0 (by omega)).2 hv hk, K_sendL hw hn hv hk (cn n - 1) (fun i hi => (h3 (i + 1) (by omega)).2)]
    split <;> grind
theorem K_push {I : SI} {cn : Nat → Nat} {nb : Nat → Nat → Nat} {J : SJ} {w n v k : Nat} {d : Int32} (hN : NetOK I cn nb) (hw : w < 4) (hn : n < 9) (hv : v < 4) (hk : k < 9) : K9 (pushJ I cn nb J w n d) v k = K9 J v k := by
  unfold pushJ
  rw [K_send hN hw hn hv hk]
  generalize landF J w n d = x
  have e : ∀ a b, st2 (st2 J (39 + w) n 0) (35 + w) n ((st2 J (39 + w) n 0) (35 + w) n + x) a b = J a b + (if a = 39 + w ∧ b = n then - J (39 + w) n else 0) + (if a = 35 + w ∧ b = n then x else 0) := by
    intro a b
    by_cases h2 : a = 35 + w ∧ b = n
    · obtain ⟨rfl, rfl⟩ := h2
      rw [st2_s, st2_n _ _ (by omega), if_neg (by omega), if_pos ⟨rfl, rfl⟩]; grind
    · rw [st2_n _ _ h2, if_neg h2]
      by_cases h1 : a = 39 + w ∧ b = n
      · obtain ⟨rfl, rfl⟩ := h1
        rw [st2_s, if_pos ⟨rfl, rfl⟩]; grind
      · rw [st2_n _ _ h1, if_neg h1]; grind
  have e2 : K9 (st2 (st2 J (39 + w) n 0) (35 + w) n ((st2 J (39 + w) n 0) (35 + w) n + x)) v k = K9 J v k + (if v = w ∧ k = n then x - J (39 + w) n else 0) := by
    unfold K9 soJ siJ
    rw [e, e, if_neg (by omega), sL_congr (f := fun o => st2 (st2 J (39 + w) n 0) (35 + w) n ((st2 J (39 + w) n 0) (35 + w) n + x) (47 + 9 * v + k) o) (g := fun o => J (47 + 9 * v + k) o) 9 (fun o _ => by rw [e, if_neg (by omega), if_neg (by omega)]; grind), sL_congr (f := fun m => st2 (st2 J (39 + w) n 0) (35 + w) n ((st2 J (39 + w) n 0) (35 + w) n + x) (47 + 9 * v + m) k) (g := fun m => J (47 + 9 * v + m) k) 9 (fun o _ => by rw [e, if_neg (by omega), if_neg (by omega)]; grind)]
    by_cases q : v = w ∧ k = n
    · rw [if_pos (by omega), if_pos (by omega), if_neg (by omega), if_pos q]; grind
    · rw [if_neg (by omega), if_neg (by omega), if_neg (by omega), if_neg q]; grind
  rw [e2]
  split <;> grind
theorem K_tb {J : SJ} {w n v k : Nat} (hw : w < 4) (hn : n < 9) (hv : v < 4) (hk : k < 9) : ∀ o, o ≤ 9 → K9 (tbL J w n o).2 v k = K9 J v k - (if v = w ∧ k = n then (tbL J w n o).1 else 0)
  | 0, _ => by unfold tbL; split <;> grind
  | o + 1, h => by
    have ih := K_tb (J := J) hw hn hv hk o (by omega)
    unfold tbL
    dsimp only
    generalize tbL J w n o = S at ih
    have e : st2 (st2 S.2 (39 + w) o (S.2 (39 + w) o - S.2 (47 + 9 * w + n) o)) (47 + 9 * w + n) o 0 = giveJ S.2 w n o (- S.2 (47 + 9 * w + n) o) := by
      unfold giveJ
      have e1 : S.2 (39 + w) o - S.2 (47 + 9 * w + n) o = S.2 (39 + w) o + - S.2 (47 + 9 * w + n) o := by grind
      rw [e1, st2_n (a := 47 + 9 * w + n) (b := o) _ _ (by omega)]
      congr 1
      grind
    rw [e, K_give hw hn (by omega) hv hk, ih]
    split <;> grind
theorem K_md {I : SI} {cn : Nat → Nat} {nb : Nat → Nat → Nat} {J : SJ} {w v k : Nat} (hN : NetOK I cn nb) (hw : w < 4) (hv : v < 4) (hk : k < 9) : ∀ n, n ≤ 9 → K9 (mdL I cn nb J w n) v k = K9 J v k
  | 0, _ => rfl
  | n + 1, h => by
    have ih := K_md (J := J) hN hw hv hk n (by omega)
    unfold mdL
    rw [K_send hN hw (by omega) hv hk, K_tb hw (by omega) hv hk 9 (Nat.le_refl _), ih]
    split <;> grind
/-- a settling keeps the units, and ends with no node unsettled -/
theorem K_run {cn : Nat → Nat} {nb : Nat → Nat → Nat} {w v k : Nat} {d bd : Int32} (hw : w < 4) (hv : v < 4) (hk : k < 9) : ∀ (f : Nat) (I : SI) (J : SJ) (I' : SI) (J' : SJ), NetOK I cn nb → runF cn nb w d bd f I J = some (I', J') → K9 J' v k = K9 J v k ∧ lowF J' w bd 9 0 = -1
  | 0, I, J, I', J', hN, h => by
    unfold runF at h
    by_cases q : lowF J w bd 9 0 = -1
    · rw [if_pos q] at h
      obtain ⟨rfl, rfl⟩ := Prod.mk.inj (Option.some.inj h)
      exact ⟨rfl, q⟩
    · rw [if_neg q] at h; cases h
  | f + 1, I, J, I', J', hN, h => by
    unfold runF at h
    by_cases q : lowF J w bd 9 0 = -1
    · rw [if_pos q] at h
      obtain ⟨rfl, rfl⟩ := Prod.mk.inj (Option.some.inj h)
      exact ⟨rfl, q⟩
    · rw [if_neg q] at h
      obtain ⟨a, b⟩ := K_run hw hv hk f _ _ I' J' (NetOK_walk hw hN) h
      rcases lowF_or J w bd with z | ⟨n, hn, z⟩
      · exact absurd z q
      · rw [z, nI_clamp (by omega)] at a
        exact ⟨a.trans (K_push hN hw hn hv hk), b⟩
/-- and leaves the other walks -/
theorem fC_give {J : SJ} {w n o : Nat} {u : Int64} (hn : n < 9) : fC w J (giveJ J w n o u) := by
  unfold giveJ
  exact (fC_J (by omega)).tr (fC_J (by omega))
theorem fC_sendL {I : SI} {nb : Nat → Nat → Nat} {J : SJ} {w n : Nat} {u : Int64} (hn : n < 9) : ∀ j, fC w J (sendL I nb J w n u j).2
  | 0 => fC.rf
  | j + 1 => (fC_sendL hn j).tr (fC_give hn)
theorem fC_sendJ {I : SI} {cn : Nat → Nat} {nb : Nat → Nat → Nat} {J : SJ} {w n : Nat} {u : Int64} (hn : n < 9) : fC w J (sendJ I cn nb J w n u) := by
  unfold sendJ
  split
  · exact fC_give hn
  · exact (fC_sendL hn _).tr (fC_give hn)
theorem fC_pushJ {I : SI} {cn : Nat → Nat} {nb : Nat → Nat → Nat} {J : SJ} {w n : Nat} {d : Int32} (hn : n < 9) : fC w J (pushJ I cn nb J w n d) := ((fC_J (by omega)).tr (fC_J (by omega))).tr (fC_sendJ hn)
theorem fC_tb {J : SJ} {w n : Nat} (hn : n < 9) : ∀ o, fC w J (tbL J w n o).2
  | 0 => fC.rf
  | o + 1 => (fC_tb hn o).tr ((fC_J (by omega)).tr (fC_J (by omega)))
theorem fC_mdL {I : SI} {cn : Nat → Nat} {nb : Nat → Nat → Nat} {J : SJ} {w : Nat} : ∀ n, n ≤ 9 → fC w J (mdL I cn nb J w n)
  | 0, _ => fC.rf
  | n + 1, h => ((fC_mdL n (by omega)).tr (fC_tb (by omega) 9)).tr (fC_sendJ (by omega))
theorem fC_run {cn : Nat → Nat} {nb : Nat → Nat → Nat} {w : Nat} {d bd : Int32} : ∀ (f : Nat) (I : SI) (J : SJ) (I' : SI) (J' : SJ), runF cn nb w d bd f I J = some (I', J') → fC w J J' ∧ ∀ a b, ¬ (a = 31 + w ∧ b = 5) → I' a b = I a b
  | 0, I, J, I', J', h => by
    unfold runF at h
    by_cases q : lowF J w bd 9 0 = -1
    · rw [if_pos q] at h
      obtain ⟨rfl, rfl⟩ := Prod.mk.inj (Option.some.inj h)
      exact ⟨fC.rf, fun _ _ _ => rfl⟩
    · rw [if_neg q] at h; cases h
  | f + 1, I, J, I', J', h => by
    unfold runF at h
    by_cases q : lowF J w bd 9 0 = -1
    · rw [if_pos q] at h
      obtain ⟨rfl, rfl⟩ := Prod.mk.inj (Option.some.inj h)
      exact ⟨fC.rf, fun _ _ _ => rfl⟩
    · rw [if_neg q] at h
      obtain ⟨a, b⟩ := fC_run f _ _ I' J' h
      rcases lowF_or J w bd with z | ⟨n, hn, z⟩
      · exact absurd z q
      · rw [z, nI_clamp (by omega)] at a
        exact ⟨(fC_pushJ hn).tr a, fun x y g => by rw [b x y g]; unfold pushI; exact st2_n _ _ g⟩
theorem low_fC {J J' : SJ} {w v : Nat} {bd : Int32} (hw : w < 4) (hv : v < 4) (hne : v ≠ w) (f : fC w J J') : ∀ t j, lowF J' v bd t j = lowF J v bd t j
  | 0, _ => rfl
  | t + 1, j => by
    unfold lowF unB
    rw [f _ (by omega) (by omega) (by omega), low_fC hw hv hne f t (j + 1)]
/-- all units stand, no node is unsettled -/
def Cons (J : SJ) : Prop := ∀ v k, v < 4 → k < 9 → K9 J v k = if k = v then 1000000 else 0
def Sett (J : SJ) (bd : Int32) : Prop := ∀ v, v < 4 → lowF J v bd 9 0 = -1
theorem mend_cons {cn : Nat → Nat} {nb : Nat → Nat → Nat} {Is : Nat → SI} {Js : Nat → SJ} (hM : MendOK cn nb Is Js) (hC : Cons (Js 0)) : ∀ w, w ≤ 4 → Cons (Js w) ∧ (∀ v, v < w → lowF (Js w) v (Is 0 0 6) 9 0 = -1) ∧ ∀ a b, (a < 31 ∨ 35 ≤ a ∨ b ≠ 5) → Is w a b = Is 0 a b
  | 0, _ => ⟨hC, fun _ h => absurd h (Nat.not_lt_zero _), fun _ _ _ => rfl⟩
  | w + 1, h => by
    obtain ⟨a1, a2, a3⟩ := mend_cons hM hC w (by omega)
    obtain ⟨hN, -, f, -, hr⟩ := hM w (by omega)
    obtain ⟨f1, f2⟩ := fC_run _ _ _ _ _ hr
    have f3 := (fC_mdL (I := Is w) (cn := cn) (nb := nb) (J := Js w) (w := w) 9 (Nat.le_refl _)).tr f1
    refine ⟨fun v k hv hk => ?_, fun v hv => ?_, fun a b q => (f2 a b (by omega)).trans (a3 a b q)⟩
    · rw [(K_run (by omega) hv hk _ _ _ _ _ hN hr).1, K_md hN (by omega) hv hk 9 (Nat.le_refl _)]
      exact a1 v k hv hk
    · by_cases e : v = w
      · subst e
        have := (K_run (v := v) (k := 0) (by omega) (by omega) (by omega) _ _ _ _ _ hN hr).2
        rw [a3 0 6 (by omega)] at this
        exact this
      · rw [low_fC (by omega) (by omega) e f3]
        exact a2 v (by omega)
theorem K_begin {J : SJ} {w k : Nat} (hw : w < 4) (hk : k < 9) : K9 (beginJ J w) w k = if k = w then 1000000 else 0 := by
  obtain ⟨a1, -⟩ := bgOut_eq (J := J) hw 9 (Nat.le_refl _)
  obtain ⟨b1, b2, b3⟩ := a1 k hk
  unfold K9 soJ siJ beginJ
  rw [sL_congr (f := fun o => st2 (bgOut J w 9) (39 + w) w 1000000 (47 + 9 * w + k) o) (g := fun _ => 0) 9 (fun o ho => by rw [st2_n _ _ (by omega)]; exact b3 o ho), sL_congr (f := fun n => st2 (bgOut J w 9) (39 + w) w 1000000 (47 + 9 * w + n) k) (g := fun _ => 0) 9 (fun n hn => by rw [st2_n _ _ (by omega)]; exact (a1 n hn).2.2 k hk), sL_zero, st2_n (a := 35 + w) (b := k) _ _ (by omega), b1]
  by_cases e : k = w
  · subst e; rw [st2_s, if_pos rfl]; grind
  · rw [st2_n _ _ (by omega), b2, if_neg e]; grind
theorem fC_begin {J : SJ} {w : Nat} (hw : w < 4) : fC w J (beginJ J w) := (bgOut_eq (J := J) hw 9 (Nat.le_refl _)).2.tr (fC_J (by omega))
theorem begin_cons {cn : Nat → Nat} {nb : Nat → Nat → Nat} {Is : Nat → SI} {Js : Nat → SJ} (hM : BeginOK cn nb Is Js) : ∀ w, w ≤ 4 → (∀ v k, v < w → k < 9 → K9 (Js w) v k = if k = v then 1000000 else 0) ∧ (∀ v, v < w → lowF (Js w) v (Is 0 0 6) 9 0 = -1) ∧ ∀ a b, (a < 31 ∨ 35 ≤ a ∨ b ≠ 5) → Is w a b = Is 0 a b
  | 0, _ => ⟨fun _ _ h => absurd h (Nat.not_lt_zero _), fun _ h => absurd h (Nat.not_lt_zero _), fun _ _ _ => rfl⟩
  | w + 1, h => by
    obtain ⟨a1, a2, a3⟩ := begin_cons hM w (by omega)
    obtain ⟨hN, -, f, -, hr⟩ := hM w (by omega)
    obtain ⟨f1, f2⟩ := fC_run _ _ _ _ _ hr
    have f3 := (fC_begin (J := Js w) (show w < 4 by omega)).tr f1
    refine ⟨fun v k hv hk => ?_, fun v hv => ?_, fun a b q => (f2 a b (by omega)).trans (a3 a b q)⟩
    · rw [(K_run (by omega) (by omega) hk _ _ _ _ _ hN hr).1]
      by_cases e : v = w
      · subst e; exact K_begin (by omega) hk
      · rw [K9_fC (by omega) (by omega) e hk (fC_begin (by omega))]; exact a1 v k (by omega) hk
    · by_cases e : v = w
      · subst e
        have := (K_run (v := v) (k := 0) (by omega) (by omega) (by omega) _ _ _ _ _ hN hr).2
        rw [a3 0 6 (by omega)] at this
        exact this
      · rw [low_fC (by omega) (by omega) e f3]
        exact a2 v (by omega)
/-- of all nodes -/
theorem all_cons {J : SJ} (h : Cons J) {v : Nat} (hv : v < 4) : sL (fun n => J (35 + v) n + J (39 + v) n) 9 = 1000000 := by
  have e1 : sL (fun n => (J (35 + v) n + J (39 + v) n) + soJ J v n) 9 = sL (fun n => (if n = v then 1000000 else 0) + siJ J v n) 9 := sL_congr 9 (fun n hn => by
    have := h v n hv hn
    unfold K9 at this
    rw [← this]
    grind)
  rw [sL_add (fun n => J (35 + v) n + J (39 + v) n) (fun n => soJ J v n), sL_add (fun n => if n = v then 1000000 else 0) (fun n => siJ J v n), sL_one, if_pos (by omega)] at e1
  have e2 : sL (fun n => soJ J v n) 9 = sL (fun n => siJ J v n) 9 := by
    unfold soJ siJ
    exact sL_swap (fun n k => J (47 + 9 * v + n) k) 9 9
  rw [e2] at e1
  generalize sL (fun n => siJ J v n) 9 = z at e1
  generalize sL (fun n => J (35 + v) n + J (39 + v) n) 9 = y at e1 ⊢
  grind
