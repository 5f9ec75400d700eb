/-! making the world: rows of references; cells of a told number are apart -/
section NROWQ
variable {p : Program} {l : Launch} {e : Env} {R : Room} {s : State} {m : MethodId} {args : Array Value} {below : List Frame} {meth : Method} {c : Code} {H : Heap} {locs : List Loc} {cells slots : Nat} {Q : State → Prop}
variable {cc : ByteArray} {pc : Nat} {ls : Array Slot} {rest : List Value} {D : va_G} {cA : Nat → ClassId} {A : Nat → Prop} {ws : va_W} {H0 : Heap} {a : Nat}
theorem n_newq (hexec : p.tables.exec = Jvm.exec) (hb : c.code = cc) {own : String} {index : Nat} (hown : s.vm.findClass own = some m.cls) (hclink : (Cond.classLink own index RX3).before args s = true) (hover : va_AO RX3 s) (hK : WK D cA s) (hP : va_P D vwCl ws H) (hD : va_D A ws) (hS : va_S A H0 H locs) (hA : ∀ q, H0.size ≤ q → A q) {h : Nat} (hh : H.size = h)
    {n : Int32} {N' : Nat} (hn : ¬ n < 0) (hN : n.toNatClampNeg = N') (hbytes : N' * 4 ≤ 536870912) (hcells : cells + 1 ≤ R.cells) (hslots : slots + N' ≤ R.slots) (hdg : decode cc pc = .ok (.anewarray index, 3))
    (kk : ∀ (H1 : Heap), H1.size = h + 1 → va_P D vwCl (ws ++ [(h, .inl (cA 7, N', .inr (.inr (.inr (.inr (fun _ => none))))))]) H1 → va_D A (ws ++ [(h, .inl (cA 7, N', .inr (.inr (.inr (.inr (fun _ => none))))))]) → va_S A H0 H1 locs →
      W p l e R s m args below meth c H1 locs (cells + 1) (slots + N') Q (F0 m (pc + 3) ls (.ref h :: rest))) : W p l e R s m args below meth c H locs cells slots Q (F0 m pc ls (.int n :: rest)) := by
  subst hN
  refine W.anew hexec hb hown hclink (va_AO.use hover) rfl hdg rfl hn hbytes hcells hslots fun c1 kA comp f1 f2 f3 f4 => ?_
  have ec : c1 = cA 7 := by
    obtain ⟨-, k0, c0, -, -, g3, g4⟩ := hK.2 7 (cA 7, .object RX3) rfl
    first | exact Option.some.inj (f4.symm.trans g4) | exact Option.some.inj (f1.symm.trans g4)
  subst ec
  generalize hH1 : H.push ({ cls := cA 7, slots := Array.replicate n.toNatClampNeg .null, vm := .none } : Cell) = H1
  have z1 : H1.size = H.size + 1 := by rw [← hH1, Array.size_push]
  have e1 : H1[H.size]? = some (arrV (cA 7) n.toNatClampNeg (fun _ => .null)) := by rw [← hH1, Array.getElem?_push_size, ← arrV_new]
  have o1 : ∀ q : Nat, q < H.size → H1[q]? = H[q]? := fun q hq => by rw [← hH1, Array.getElem?_push, if_neg (Nat.ne_of_lt hq)]
  have hk : ∀ (k : Nat) (x : Nat × va_E), ws[k]? = some x → H1[x.1]? = H[x.1]? := fun k x hx => o1 x.1 ((hP k x hx).lt)
  subst hh
  refine kk H1 z1 ((hP.kept hk).app (fun k x hx => ?_)) (hD.push hP rfl (hA _ hS.1)) ⟨Nat.le_trans hS.1 (by omega), fun x h1 h2 => (o1 x (Nat.lt_of_lt_of_le h1 hS.1)).trans (hS.2.1 x h1 h2), hS.2.2⟩
  have h0 : k < 1 := (List.getElem?_eq_some_iff.mp hx).1
  rw [show k = 0 by omega] at hx
  cases hx
  exact e1
theorem n_aast (hexec : p.tables.exec = Jvm.exec) (hb : c.code = cc) (hK : WK D cA s) (hP : va_P D vwCl ws H) (hD : va_D A ws) (hS : va_S A H0 H locs) {h : Nat} (hh : H.size = h) {n v : Nat} {vs : List Value} {f : Nat → Option Nat} (ha : ws[1]? = some (a, .inl (cA 7, n, .inr (.inr (.inr (.inr f)))))) (hv : va_at D vwCl (v, .inr (7, vs)) H) {i : Int32} {i' : Nat} (hi' : i = nI i') (hin : i' < n) (hn4 : n < 5) (hdg : decode cc pc = .ok (.aastore, 1))
    (kk : ∀ (H1 : Heap) (locs1 : List Loc), H1.size = h → va_P D vwCl (ws.set 1 (a, .inl (cA 7, n, .inr (.inr (.inr (.inr (va_up f i' (some v)))))))) H1 → va_D A (ws.set 1 (a, .inl (cA 7, n, .inr (.inr (.inr (.inr (va_up f i' (some v)))))))) → va_S A H0 H1 locs1 → W p l e R s m args below meth c H1 locs1 cells slots Q (F0 m (pc + 1) ls rest)) : W p l e R s m args below meth c H locs cells slots Q (F0 m pc ls (.ref v :: .int i :: .ref a :: rest)) := by
  have ci : i.toNatClampNeg = i' := by rw [hi']; exact nI_clamp (by omega)
  have h0 : ¬ i < 0 := by rw [hi']; exact nI_pos (by omega)
  obtain ⟨r', hr', cellV, g1, g2, g3, -⟩ := hv
  have hr9 : r' = (RX3, TX3, 5) := by have : vwCl[7]? = some (RX3, TX3, 5) := rfl; exact Option.some.inj (hr'.symm.trans this)
  subst hr9
  have hcls := (hK.1 7 (RX3, TX3, 5) rfl).2
  obtain ⟨kA, comp, k1, k2, k3, -⟩ := (hK.2 7 (cA 7, .object RX3) rfl).2
  have hcomp : comp = D.1 7 := Option.some.inj (k3.symm.trans hcls.1)
  subst hcomp
  obtain ⟨kC, hkC, -⟩ := hcls.2
  refine W.aast hexec hb (hP 1 _ ha) (fun q h => by cases h) (fun h => by cases h) k1 k2 rfl hkC ⟨h0, by show _ < (arrV _ _ _).slots.size; rw [arrV_size, ci]; exact hin⟩ g1 (fun q h => by rw [g3] at h; cases h) (by rw [g2]; exact hkC) (by rw [g2]; exact va_assign hcls) rfl rfl hdg fun H1 e z oq => ?_
  refine kk H1 _ (z.trans hh) (hP.set hD ha ?_ oq) (hD.set ha) (hS.put z oq (hD.2 1 _ ha))
  show H1[a]? = some (vp_cell _ _)
  rw [e]
  rw [vp_cell_q, vp_cell_q, arrV_store, ci]
  congr 2
  funext q
  by_cases hq : q = i'
  · subst hq
    simp [updV, va_up, va_rf]
  · simp [updV, va_up, hq]
end NROWQ
/-- cells told by number, each with what it holds now -/
def numW (a0 : Nat) (P : List (Nat × va_E)) : va_W := P.map (fun x => (a0 + ofs x.1, x.2))
theorem numW_D {a0 : Nat} {P : List (Nat × va_E)} {A : Nat → Prop} (hA : ∀ q, a0 ≤ q → A q) (hN : (P.map Prod.fst).Nodup) (hb : ∀ k ∈ P.map Prod.fst, k < 116) : va_D A (numW a0 P) := by
  have key : ∀ (i : Nat) (x : Nat × va_E), (numW a0 P)[i]? = some x → ∃ y, P[i]? = some y ∧ x.1 = a0 + ofs y.1 ∧ y.1 < 116 := fun i x hx => by
    unfold numW at hx
    rw [List.getElem?_map] at hx
    cases hy : P[i]? with
    | none => rw [hy] at hx; cases hx
    | some y =>
      rw [hy] at hx
      cases hx
      exact ⟨y, rfl, rfl, hb _ (List.mem_map.mpr ⟨y, List.mem_of_getElem? hy, rfl⟩)⟩
  refine ⟨fun i j x y hi hj he => ?_, fun i x hx => ?_⟩
  · obtain ⟨u, hu, eu, bu⟩ := key i x hi
    obtain ⟨v, hv, ev, bv⟩ := key j y hj
    have e1 : u.1 = v.1 := ofs_inj _ bu _ bv (by omega)
    have g1 : (P.map Prod.fst)[i]? = some u.1 := by rw [List.getElem?_map, hu]; rfl
    have g2 : (P.map Prod.fst)[j]? = some u.1 := by rw [List.getElem?_map, hv, e1]; rfl
    have l1 := (List.getElem?_eq_some_iff.mp g1).1
    exact (List.getElem?_inj l1 hN).mp (g1.trans g2.symm)
  · obtain ⟨u, hu, eu, bu⟩ := key i x hx
    rw [eu]
    exact hA _ (by omega)
/-- what a maker leaves: the others as they were, its own told -/
theorem numW_call {D : va_G} {cA : Nat → ClassId} {a0 h0 : Nat} {P : List (Nat × va_E)} {L : List Nat} {H H1 : Heap} (hP : va_P D vwCl (numW a0 P) H) (hne : ∀ k ∈ P.map Prod.fst, a0 + ofs k ≠ h0) (hq : ∀ q : Nat, q < H.size → ¬ nA h0 (h0 + 1) q → H1[q]? = H[q]?) (hs : H.size = h0 + 1) (hE : ∀ k ∈ L, EP D cA a0 k H1) : va_P D vwCl (numW a0 (P ++ L.map (fun k => (k, ent cA (adF a0) I0 J0 X0 k)))) H1 := by
  unfold numW
  rw [List.map_append]
  refine va_P.app (hP.kept (fun i x hx => ?_)) (fun i x hx => ?_)
  · have hl := (hP i x hx).lt
    unfold numW at hx
    rw [List.getElem?_map] at hx
    cases hy : P[i]? with
    | none => rw [hy] at hx; cases hx
    | some y =>
      rw [hy] at hx
      cases hx
      refine hq _ hl (fun z => ?_)
      rcases z with z | z
      · exact hne _ (List.mem_map.mpr ⟨y, List.mem_of_getElem? hy, rfl⟩) z
      · exact absurd hl (by rw [hs]; omega)
  · rw [List.map_map, List.getElem?_map] at hx
    cases hy : L[i]? with
    | none => rw [hy] at hx; cases hx
    | some y =>
      rw [hy] at hx
      cases hx
      exact hE y (List.mem_of_getElem? hy)
theorem numW_last {D : va_G} {a0 : Nat} {P : List (Nat × va_E)} {x : Nat × va_E} {H : Heap} (h : va_P D vwCl (numW a0 P ++ [x]) H) : va_P D vwCl (numW a0 P) H ∧ va_P D vwCl [x] H := by
  refine ⟨fun i y hy => h i y ?_, fun i y hy => h ((numW a0 P).length + i) y ?_⟩
  · have := (List.getElem?_eq_some_iff.mp hy).1
    rw [List.getElem?_append_left this]; exact hy
  · rw [List.getElem?_append_right (by omega)]
    rw [show (numW a0 P).length + i - (numW a0 P).length = i by omega]
    exact hy
/-- the last cell told second -/
theorem numW_mv {D : va_G} {a0 : Nat} {x y : Nat × va_E} {T : List (Nat × va_E)} {H : Heap} {q : Nat} (hq : q = a0 + ofs y.1) (h : va_P D vwCl (numW a0 (x :: T) ++ [(q, y.2)]) H) : va_P D vwCl (numW a0 (x :: y :: T)) H := by
  subst hq
  obtain ⟨h1, h2⟩ := numW_last h
  intro i z hz
  match i, hz with
  | 0, hz => exact h1 0 z hz
  | 1, hz => exact h2 0 z hz
  | i + 2, hz => exact h1 (i + 1) z hz
theorem numW_set {D : va_G} {a0 : Nat} {x y : Nat × va_E} {T : List (Nat × va_E)} {H : Heap} {q : Nat} (hq : q = a0 + ofs y.1) (h : va_P D vwCl ((numW a0 (x :: T)).set 0 (q, y.2)) H) : va_P D vwCl (numW a0 (y :: T)) H := by
  subst hq
  exact h
theorem numW_set1 {D : va_G} {a0 : Nat} {x y y' : Nat × va_E} {T : List (Nat × va_E)} {H : Heap} {q : Nat} (hq : q = a0 + ofs y'.1) (h : va_P D vwCl ((numW a0 (x :: y :: T)).set 1 (q, y'.2)) H) : va_P D vwCl (numW a0 (x :: y' :: T)) H := by
  subst hq
  exact h
/-- made cells, told by their numbers -/
def mdW (cA : Nat → ClassId) (a0 : Nat) (L : List Nat) : List (Nat × va_E) := L.map (fun k => (k, ent cA (adF a0) I0 J0 X0 k))
theorem mdW_fst (cA : Nat → ClassId) (a0 : Nat) (L : List Nat) : (mdW cA a0 L).map Prod.fst = L := by
  unfold mdW
  rw [List.map_map]
  exact (List.map_congr_left (fun _ _ => rfl)).trans (List.map_id L)
theorem mdW_app (cA : Nat → ClassId) (a0 : Nat) (L M : List Nat) : mdW cA a0 L ++ mdW cA a0 M = mdW cA a0 (L ++ M) := by unfold mdW; rw [List.map_append]
theorem wD1 {A : Nat → Prop} {cA : Nat → ClassId} {a0 : Nat} {e : va_E} {L : List Nat} (hA : ∀ q, a0 ≤ q → A q) (h : ((0 :: L).Nodup : Prop) ∧ ∀ k ∈ 0 :: L, k < 116) : va_D A (numW a0 ((0, e) :: mdW cA a0 L)) := numW_D hA (by rw [List.map_cons, mdW_fst]; exact h.1) (by rw [List.map_cons, mdW_fst]; exact h.2)
theorem wD2 {A : Nat → Prop} {cA : Nat → ClassId} {a0 : Nat} {e f : va_E} {L : List Nat} (hA : ∀ q, a0 ≤ q → A q) (h : ((0 :: 30 :: L).Nodup : Prop) ∧ ∀ k ∈ 0 :: 30 :: L, k < 116) : va_D A (numW a0 ((0, e) :: (30, f) :: mdW cA a0 L)) := numW_D hA (by rw [List.map_cons, List.map_cons, mdW_fst]; exact h.1) (by rw [List.map_cons, List.map_cons, mdW_fst]; exact h.2)
theorem wC1 {D : va_G} {cA : Nat → ClassId} {a0 b : Nat} {e : va_E} {L M : List Nat} {H H1 : Heap} (hP : va_P D vwCl (numW a0 ((0, e) :: mdW cA a0 L)) H) (hne : ∀ k ∈ 0 :: L, ofs k ≠ b) (hq : ∀ q : Nat, q < H.size → ¬ nA (a0 + b) (a0 + b + 1) q → H1[q]? = H[q]?) (hs : H.size = a0 + b + 1) (hE : ∀ k ∈ M, EP D cA a0 k H1) : va_P D vwCl (numW a0 ((0, e) :: mdW cA a0 (L ++ M))) H1 := by
  have h := numW_call hP (fun k hk z => by rw [List.map_cons, mdW_fst] at hk; exact hne k hk (by omega)) hq hs hE
  rw [← mdW_app]
  exact h
theorem wC2 {D : va_G} {cA : Nat → ClassId} {a0 b : Nat} {e f : va_E} {L M : List Nat} {H H1 : Heap} (hP : va_P D vwCl (numW a0 ((0, e) :: (30, f) :: mdW cA a0 L)) H) (hne : ∀ k ∈ 0 :: 30 :: L, ofs k ≠ b) (hq : ∀ q : Nat, q < H.size → ¬ nA (a0 + b) (a0 + b + 1) q → H1[q]? = H[q]?) (hs : H.size = a0 + b + 1) (hE : ∀ k ∈ M, EP D cA a0 k H1) : va_P D vwCl (numW a0 ((0, e) :: (30, f) :: mdW cA a0 (L ++ M))) H1 := by
  have h := numW_call hP (fun k hk z => by rw [List.map_cons, List.map_cons, mdW_fst] at hk; exact hne k hk (by omega)) hq hs hE
  rw [← mdW_app]
  exact h
