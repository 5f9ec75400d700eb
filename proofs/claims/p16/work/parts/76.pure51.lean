/-! making the world: fields put, where its cells lie, what they hold at first -/
section NPUT
variable {p : Program} {l : Launch} {e : Env} {R : Room} {s : State} {m : MethodId} {args : Array Value} {below : List Frame} {meth : Method} {c : Code} {H : Heap} {locs : List Loc} {cells slots : Nat} {Q : State → Prop}
variable {cc : ByteArray} {pc : Nat} {ls : Array Slot} {rest : List Value} {D : va_G} {cA : Nat → ClassId} {A : Nat → Prop} {ws : va_W} {H0 : Heap} {a : Nat}
/-- a field put; the heap's size stays -/
theorem n_put (hexec : p.tables.exec = Jvm.exec) (hb : c.code = cc) {own ref C : String} {T : u_T} {N ci index : Nat} {Ts : List Cond} (hts : ∀ w ∈ Ts, w.before args s = true) (hin : ∀ w ∈ u_ws C T N, w ∈ Ts) (ty0 : Nat → FieldType) (hty : ∀ k, k < N → parseFieldDescriptor (T k).2.2.1 = some (ty0 k)) (hnm : ∀ a, a < N → ∀ b, b < N → a ≠ b → (T a).2.1 ≠ (T b).2.1) (hown : s.vm.findClass own = some m.cls) (hK : WK D cA s) (hP : va_P D vwCl ws H) (hD : va_D A ws) (hS0 : va_S A H0 H locs) {h : Nat} (hh : H.size = h) {fs : List Value} (he : ws[0]? = some (a, .inr (ci, fs))) (hc : vwCl[ci]? = some (C, T, N)) (k : Nat) (hk : k < N) (hlink : (Cond.fieldLink own index ref (T k).2.1 (T k).2.2.1).before args s = true) (hsame : ∀ x, s.fieldFound? (T k).1 (T k).2.1 (T k).2.2.1 = some x → s.fieldFound? ref (T k).2.1 (T k).2.2.1 = some x) (hfin : (T k).2.2.2 = false ∨ ((T k).2.2.2 = true ∧ meth.name = "<init>" ∧ (T k).1 = own)) {ty : FieldType} {v : Value} (hd : parseFieldDescriptor (T k).2.2.1 = some ty) (hn : narrow ty v = v) (hfit : fits ty v = true) (hl : k < fs.length)
    (hdg : decode cc pc = .ok (.putfield index, 3)) (kk : ∀ (H1 : Heap) (locs1 : List Loc), H1.size = h → va_P D vwCl (ws.set 0 (a, .inr (ci, fs.set k v))) H1 → va_D A (ws.set 0 (a, .inr (ci, fs.set k v))) → va_S A H0 H1 locs1 → W p l e R s m args below meth c H1 locs1 cells slots Q (F0 m (pc + 3) ls rest)) : W p l e R s m args below meth c H locs cells slots Q (F0 m pc ls (v :: .ref a :: rest)) := by
  have hap := va_apart (own := own) hts hin ty0 hty hnm hK hc
  obtain ⟨r, h1, cell, q1, q2, q3, q4⟩ := hP 0 _ he
  have hr : r = (C, T, N) := Option.some.inj (h1.symm.trans hc)
  subst hr
  obtain ⟨hS, hfc, kC, hkC, hkind⟩ := hK.1 ci _ hc
  obtain ⟨cf, kf, fi, f, hi, hsl⟩ := hS k hk
  have hlay := hts _ (hin _ (u_in_lay hk))
  have hst := (u_facts hfc hkC (u_lays hts hin hk) hi).1
  have fin : ∀ H' : Heap, H'[a]? = some (cell.setSlot f.slot v) → H'.size = H.size → (∀ q, q ≠ a → H'[q]? = H[q]?) → W p l e R s m args below meth c H' (locs ++ [⟨a, f.slot⟩]) cells slots Q (F0 m (pc + 3) ls rest) := fun H' e1 e2 e3 => by
    rw [hsl] at e1 ⊢
    exact kk H' _ (e2.trans hh) (hP.set hD he ⟨_, hc, t_OB.to (V := updV (vp_V fs) k v) ⟨_, e1, q2, q3, t_set q4 hap hk v⟩ (fun j _ => vp_updV_set hl v j)⟩ e3) (hD.set he) (hS0.put e2 e3 (hD.2 0 _ he))
  unfold u_lay at hlay
  rcases hfin with hf | ⟨hf, hin2, hdecl⟩
  · rw [if_neg (by rw [hf]; decide)] at hlay
    have h6 := u_store hfc hkC hkind hlay hi hd hn hfit
    exact W.putK hexec hb (f := f) ⟨hown, hlink, ⟨_, _, _, hsame _ hi⟩, hst⟩ (by rw [q2]; exact h6) q1 q3 (by rw [hsl]; exact k2_hasslot (q4 k hk)) rfl rfl hdg fin
  · rw [if_pos hf] at hlay
    have hcf : m.cls = cf := by
      obtain ⟨_, _, c', _, _, _, -, -, hf', -, -, -, hown2, -⟩ := Cond.laysFinal_spec hlay
      have e1 : c' = cf := by have := hi.symm.trans hf'; simp at this; exact this.1.symm
      rw [hdecl] at hown2
      rw [← e1]; exact Option.some.inj (hown.symm.trans hown2)
    have h6 := u_fits hfc hkC hkind (Or.inr hlay) hi hd hn hfit
    exact W.putFinK hexec hb hown hlink (hsame _ hi) hst hcf hin2 (by rw [q2]; exact h6) q1 q3 (by rw [hsl]; exact k2_hasslot (q4 k hk)) rfl rfl hdg fin
end NPUT
/-- where a cell lies, from the first on: in the order in which they are made -/
def ofs (k : Nat) : Nat := if k ≤ 30 then k else if k < 35 then 50 + 13 * (k - 31) else if k < 39 then 51 + 13 * (k - 35) else if k < 43 then 52 + 13 * (k - 39) else if k < 47 then 53 + 13 * (k - 43) else if k < 83 then 54 + 13 * ((k - 47) / 9) + (k - 47) % 9 else if k ≤ 101 then k - 52 else k
def adF (a0 k : Nat) : Nat := a0 + ofs k
theorem ofs_inj : ∀ i, i < 116 → ∀ j, j < 116 → ofs i = ofs j → i = j := by decide +kernel
theorem ofs_outer : ∀ k, k < 116 → kd k = 5 → k ≠ 30 → ∀ i, i < ln k → ofs (rb k + i) = ofs k + 1 + i := by decide +kernel
theorem ofs_lt : ∀ k, k < 116 → ofs k < 116 := by decide +kernel
def I0 : SI := fun k i => if k = 0 ∧ i = 5 then 80 else if k = 0 ∧ i = 6 then 1000 else if k = 102 ∧ i = 2 then 80 else if k = 102 ∧ i = 3 then 1000 else if 31 ≤ k ∧ k < 35 ∧ i = 1 then nI (k - 31) else 0
def J0 : SJ := fun _ _ => 0
def X0 : SX := fun _ _ => 0
def e0 (cA : Nat → ClassId) (a0 k : Nat) : Nat × va_E := (adF a0 k, ent cA (adF a0) I0 J0 X0 k)
theorem e0_i (cA : Nat → ClassId) (a0 k : Nat) (hk : kd k = 1) : e0 cA a0 k = (adF a0 k, .inl (cA 0, ln k, .inl (fun _ => 0))) := by
  unfold e0
  rw [ent_i hk]
  have e : I0 k = fun _ => 0 := by
    funext i
    unfold I0
    have h1 : k ≠ 0 := fun h => by subst h; exact absurd hk (by decide)
    have h2 : k ≠ 102 := fun h => by subst h; exact absurd hk (by decide)
    have h3 : ¬ (31 ≤ k ∧ k < 35) := fun h => by
      have : k = 31 ∨ k = 32 ∨ k = 33 ∨ k = 34 := by omega
      rcases this with r | r | r | r <;> (subst r; exact absurd hk (by decide))
    rw [if_neg (fun h => h1 h.1), if_neg (fun h => h1 h.1), if_neg (fun h => h2 h.1), if_neg (fun h => h2 h.1), if_neg (fun h => h3 ⟨h.1, h.2.1⟩)]
  rw [e]
theorem e0_b (cA : Nat → ClassId) (a0 : Nat) : e0 cA a0 101 = (a0 + 49, .inl (cA 3, 16, .inl (fun _ => 0))) := rfl
theorem e0_j (cA : Nat → ClassId) (a0 k : Nat) (hk : kd k = 2) : e0 cA a0 k = (adF a0 k, .inl (cA 1, ln k, .inr (.inl (fun _ => 0)))) := by unfold e0; rw [ent_j hk]; rfl
theorem e0_x (cA : Nat → ClassId) (a0 k : Nat) (hk : kd k = 3) : e0 cA a0 k = (adF a0 k, .inl (cA 2, ln k, .inr (.inr (.inr (.inl (fun _ => 0)))))) := by unfold e0; rw [ent_x hk]; rfl
theorem e0_q (cA : Nat → ClassId) (a0 k : Nat) (hk : kd k = 5) (hk1 : k < 116) (h30 : k ≠ 30) : e0 cA a0 k = (adF a0 k, .inl (cA (tn k), ln k, .inr (.inr (.inr (.inr (fun i => if i < ln k then some (adF a0 k + 1 + i) else none)))))) := by
  unfold e0
  rw [ent_q hk]
  have e : (fun i => if i < ln k then some (adF a0 (rb k + i)) else none) = (fun i => if i < ln k then some (adF a0 k + 1 + i) else none) := by
    funext i
    by_cases h : i < ln k
    · rw [if_pos h, if_pos h]
      have := ofs_outer k hk1 hk h30 i h
      unfold adF
      rw [this]
      congr 1
      omega
    · rw [if_neg h, if_neg h]
  rw [e]
/-- a made cell -/
def EP (D : va_G) (cA : Nat → ClassId) (a0 k : Nat) (H : Heap) : Prop := va_at D vwCl (e0 cA a0 k) H
theorem EP.kept {D : va_G} {cA : Nat → ClassId} {a0 k : Nat} {H H1 : Heap} (h : EP D cA a0 k H) (hq : H1[adF a0 k]? = H[adF a0 k]?) : EP D cA a0 k H1 := by
  have hP : va_P D vwCl [e0 cA a0 k] H := fun j x hx => by
    have h0 : j < 1 := (List.getElem?_eq_some_iff.mp hx).1
    rw [show j = 0 by omega] at hx
    cases hx
    exact h
  exact (hP.kept (H1 := H1) (fun j x hx => by
    have h0 : j < 1 := (List.getElem?_eq_some_iff.mp hx).1
    rw [show j = 0 by omega] at hx
    cases hx
    exact hq)) 0 _ rfl
theorem EP.lt {D : va_G} {cA : Nat → ClassId} {a0 k : Nat} {H : Heap} (h : EP D cA a0 k H) : adF a0 k < H.size := by
  have hP : va_P D vwCl [e0 cA a0 k] H := fun j x hx => by
    have h0 : j < 1 := (List.getElem?_eq_some_iff.mp hx).1
    rw [show j = 0 by omega] at hx
    cases hx
    exact h
  exact (hP 0 _ rfl).lt
