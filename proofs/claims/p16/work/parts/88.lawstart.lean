/-! the law's start: what the tables and the given facts say there -/
theorem st_hA {ad : Nat → Nat} {s : State} (had : ∀ k, k < 102 → s.heap.size ≤ ad k) : ∀ a : Nat, a < s.heap.size → ¬ fr 102 ad s.heap.size a := fun a ha h => by
  rcases h with ⟨k, hk, e⟩ | h
  · have := had k hk; omega
  · omega
theorem str_of {args : Array Value} {s : State} {own tx : String} {k : Nat} (hx : (Cond.exactly (.string own k) "java/lang/String").before args s = true) (hr : (Cond.stringRef own k tx).before args s = true) : ∃ a, vk_R own k tx a s := by
  obtain ⟨a, c, cA, kA, q1, -⟩ := Cond.exactly_spec (args := args) (first := s) (o := none) (s := s) (idx := []) (t := .string own k) (cls := "java/lang/String") hx
  exact ⟨a, vk_R.of hr q1⟩
theorem arr_of {s : State} {c : ClassId} {k : Class} {comp : ClassId} {ty : FieldType} (hk : s.vm.classes[c]? = some k) (hkind : k.kind = .array comp ty) : ArrOfT s c ty := fun n z => ⟨fun q h => (by cases h), k, hk, comp, hkind⟩
theorem arr_w {args : Array Value} {s : State} {ty : FieldType} (h : (Cond.arrayClass ty).before args s = true) : ∃ c, ArrOfT s c ty ∧ s.vm.findClass ("[" ++ ty.toString) = some c := by
  obtain ⟨c, k, comp, h1, h2, h3⟩ := Cond.arrayClass_spec h
  exact ⟨c, arr_of h2 h3, h1⟩
theorem arr_a {s : State} {ty : FieldType} (h : va_AOA ty s) : ∃ c, ArrOfT s c (.array ty) ∧ s.vm.findClass ("[" ++ (FieldType.array ty).toString) = some c := by
  obtain ⟨comp, c, k, h1, h2, h3, h4, h5⟩ := va_AOA_spec h
  exact ⟨c, arr_of h3 h4, h5⟩
theorem arr_o {s : State} {C : String} (h : va_AO C s) : ∃ c, ArrOfT s c (.object C) ∧ va_RA s c (.object C) := by
  obtain ⟨comp, c, k, h1, h2, h3, h4, h5⟩ := Cond.arrayOver_spec h
  exact ⟨c, arr_of h3 h4, k, comp, h3, h4, h1, h5⟩

set_option maxHeartbeats 4000000 in
set_option maxRecDepth 100000 in
/-- the ten classes and eight array classes -/
theorem law_K {args : Array Value} {s : State} (hts : ∀ w ∈ lw_tbl, w.before args s = true) : ∃ (D : va_G) (cA : Nat → ClassId), WK D cA s := by
  have hts2 := lw_hts2 hts
  have hC : ∀ k : Nat, ∃ x : ClassId × (Nat → Nat), ∀ q, vwCl[k]? = some q → u_Kn s q.1 q.2.1 q.2.2 x.1 x.2 := by
    intro k
    match k with
    | 0 =>
      obtain ⟨c, i, h⟩ := u_known (C := RJ0) (T := TJ0) (N := 4) (n := 4) hts2 wsJ00_in (hts (Cond.instantiable "java/lang/String" 4) (List.mem_of_getElem? (i := 636) (by decide +kernel)))
      exact ⟨(c, i), fun q hq => by cases hq; exact h⟩
    | 1 =>
      obtain ⟨c, i, h⟩ := u_known (C := RJ4) (T := TJ4) (N := 4) (n := 4) hts2 wsJ40_in (hts (Cond.instantiable "java/lang/StringBuilder" 4) (List.mem_of_getElem? (i := 114) (by decide +kernel)))
      exact ⟨(c, i), fun q hq => by cases hq; exact h⟩
    | 2 =>
      obtain ⟨c, i, h⟩ := u_known (C := RJx00060) (T := TJx00060) (N := 6) (n := 6) hts2 wsJx000600_in (hts (Cond.instantiable "java/lang/ArrayIndexOutOfBoundsException" 6) (List.mem_of_getElem? (i := 720) (by decide +kernel)))
      exact ⟨(c, i), fun q hq => by cases hq; exact h⟩
    | 3 =>
      obtain ⟨c, i, h⟩ := u_known (C := RJx7c733) (T := TJx7c733) (N := 6) (n := 6) hts2 wsJx7c7330_in (hts (Cond.instantiable "java/lang/StringIndexOutOfBoundsException" 6) (List.mem_of_getElem? (i := 481) (by decide +kernel)))
      exact ⟨(c, i), fun q hq => by cases hq; exact h⟩
    | 4 =>
      obtain ⟨c, i, h⟩ := u_known (C := RX0) (T := TX0) (N := 3) (n := 3) hts2 wsX00_in (hts (Cond.instantiable "Shelfwalk$Elimination" 3) (List.mem_of_getElem? (i := 95) (by decide +kernel)))
      exact ⟨(c, i), fun q hq => by cases hq; exact h⟩
    | 5 =>
      obtain ⟨c, i, h⟩ := u_known (C := RX1) (T := TX1) (N := 6) (n := 6) hts2 wsX10_in (hts (Cond.instantiable "Shelfwalk$Net" 6) (List.mem_of_getElem? (i := 45) (by decide +kernel)))
      exact ⟨(c, i), fun q hq => by cases hq; exact h⟩
    | 6 =>
      obtain ⟨c, i, h⟩ := u_known (C := RX2) (T := TX2) (N := 4) (n := 4) hts2 wsX20_in (hts (Cond.instantiable "Shelfwalk$Ranking" 4) (List.mem_of_getElem? (i := 75) (by decide +kernel)))
      exact ⟨(c, i), fun q hq => by cases hq; exact h⟩
    | 7 =>
      obtain ⟨c, i, h⟩ := u_known (C := RX3) (T := TX3) (N := 5) (n := 5) hts2 wsX30_in (hts (Cond.instantiable "Shelfwalk$Walk" 5) (List.mem_of_getElem? (i := 146) (by decide +kernel)))
      exact ⟨(c, i), fun q hq => by cases hq; exact h⟩
    | 8 =>
      obtain ⟨c, i, h⟩ := u_known (C := RX4) (T := TX4) (N := 7) (n := 7) hts2 wsX40_in (hts (Cond.instantiable "Shelfwalk" 7) (List.mem_of_getElem? (i := 37) (by decide +kernel)))
      exact ⟨(c, i), fun q hq => by cases hq; exact h⟩
    | k + 9 => exact ⟨(0, fun _ => 0), fun q hq => by simp [vwCl] at hq⟩
  obtain ⟨f, hf⟩ := Classical.axiomOfChoice hC
  obtain ⟨a0, g0, n0⟩ := arr_w (hts (Cond.arrayClass .int) (List.mem_of_getElem? (i := 71) (by decide +kernel)))
  obtain ⟨a1, g1, n1⟩ := arr_w (hts (Cond.arrayClass .long) (List.mem_of_getElem? (i := 93) (by decide +kernel)))
  obtain ⟨a2, g2, n2⟩ := arr_w (hts (Cond.arrayClass .double) (List.mem_of_getElem? (i := 112) (by decide +kernel)))
  obtain ⟨a3, g3, n3⟩ := arr_w (hts (Cond.arrayClass .byte) (List.mem_of_getElem? (i := 145) (by decide +kernel)))
  obtain ⟨a4, g4, n4⟩ := arr_a (ty := .int) (s := s) (hts (Cond.arrayOver (.array .int)) (List.mem_of_getElem? (i := 51) (by decide +kernel)))
  obtain ⟨a5, g5, n5⟩ := arr_a (ty := .long) (s := s) (hts (Cond.arrayOver (.array .long)) (List.mem_of_getElem? (i := 152) (by decide +kernel)))
  obtain ⟨a6, g6, n6⟩ := arr_a (ty := .double) (s := s) (hts (Cond.arrayOver (.array .double)) (List.mem_of_getElem? (i := 101) (by decide +kernel)))
  obtain ⟨a7, g7, n7⟩ := arr_o (C := "Shelfwalk$Walk") (s := s) (hts (Cond.arrayOver (.object "Shelfwalk$Walk")) (List.mem_of_getElem? (i := 73) (by decide +kernel)))
  refine ⟨(fun k => (f k).1, fun k => (f k).2), fun k => [a0, a1, a2, a3, a4, a5, a6, a7].getD k 0, fun k q hq => hf k q hq, fun k q hq => ?_⟩
  match k, hq with
  | 0, hq => cases hq; exact ⟨g0, n0⟩
  | 1, hq => cases hq; exact ⟨g1, n1⟩
  | 2, hq => cases hq; exact ⟨g2, n2⟩
  | 3, hq => cases hq; exact ⟨g3, n3⟩
  | 4, hq => cases hq; exact ⟨g4, n4⟩
  | 5, hq => cases hq; exact ⟨g5, n5⟩
  | 6, hq => cases hq; exact ⟨g6, n6⟩
  | 7, hq => cases hq; exact ⟨g7, n7⟩
  | k + 8, hq => simp [tysW] at hq

set_option maxHeartbeats 4000000 in
set_option maxRecDepth 100000 in
theorem law_AO {args : Array Value} {s : State} (hts : ∀ w ∈ lw_tbl, w.before args s = true) : AO3 s ∧ va_AO RX3 s ∧ NL3 s := ⟨⟨(hts (Cond.arrayOver (.array .int)) (List.mem_of_getElem? (i := 51) (by decide +kernel))), (hts (Cond.arrayOver (.array .long)) (List.mem_of_getElem? (i := 152) (by decide +kernel))), (hts (Cond.arrayOver (.array .double)) (List.mem_of_getElem? (i := 101) (by decide +kernel)))⟩, (hts (Cond.arrayOver (.object "Shelfwalk$Walk")) (List.mem_of_getElem? (i := 73) (by decide +kernel))), va_Nw.of rfl (hts (Cond.methodLinkNest "Shelfwalk" 11 ⟨"Shelfwalk$Net", "<init>", "()V"⟩ "Shelfwalk") (List.mem_of_getElem? (i := 46) (by decide +kernel))), va_Nw.of rfl (hts (Cond.methodLinkNest "Shelfwalk" 24 ⟨"Shelfwalk$Ranking", "<init>", "()V"⟩ "Shelfwalk") (List.mem_of_getElem? (i := 76) (by decide +kernel))), va_Nw.of rfl (hts (Cond.methodLinkNest "Shelfwalk" 31 ⟨"Shelfwalk$Elimination", "<init>", "()V"⟩ "Shelfwalk") (List.mem_of_getElem? (i := 96) (by decide +kernel)))⟩

set_option maxHeartbeats 4000000 in
set_option maxRecDepth 100000 in
theorem law_XT {args : Array Value} {s : State} (hts : ∀ w ∈ lw_tbl, w.before args s = true) (hgv : (Jvm.Cond.and given_1 narrow_1).before args s = true) : XT s := by
  have hs := flat_of_before _ hgv
  exact ⟨⟨va_Nw.of rfl (hts (Cond.declares ⟨"java/lang/RuntimeException", "<init>", "(Ljava/lang/String;)V"⟩) (List.mem_of_getElem? (i := 263) (by decide +kernel))), va_Nw.of rfl (hts (Cond.declares ⟨"java/lang/Exception", "<init>", "(Ljava/lang/String;)V"⟩) (List.mem_of_getElem? (i := 265) (by decide +kernel))), va_Nw.of rfl (hts (Cond.declares ⟨"java/lang/Throwable", "<init>", "(Ljava/lang/String;)V"⟩) (List.mem_of_getElem? (i := 267) (by decide +kernel))), va_Nw.of rfl (hts (Cond.castable "java/lang/IndexOutOfBoundsException" "java/lang/IndexOutOfBoundsException") (List.mem_of_getElem? (i := 261) (by decide +kernel))), va_Nw.of rfl (hts (Cond.castable "java/lang/IllegalArgumentException" "java/lang/IllegalArgumentException") (List.mem_of_getElem? (i := 337) (by decide +kernel))), va_Nw.of rfl (hts (Cond.castable "java/lang/IllegalStateException" "java/lang/IllegalStateException") (List.mem_of_getElem? (i := 388) (by decide +kernel)))⟩,
    str_of (own := RX4) (k := 83) (hs (.exactly (.string "Shelfwalk" 83) "java/lang/String") (by decide +kernel)) (hts (Cond.stringRef "Shelfwalk" 83 "no such loan") (List.mem_of_getElem? (i := 395) (by decide +kernel))),
    str_of (own := RX4) (k := 159) (hs (.exactly (.string "Shelfwalk" 159) "java/lang/String") (by decide +kernel)) (hts (Cond.stringRef "Shelfwalk" 159 "no such reader") (List.mem_of_getElem? (i := 302) (by decide +kernel))),
    str_of (own := RX4) (k := 162) (hs (.exactly (.string "Shelfwalk" 162) "java/lang/String") (by decide +kernel)) (hts (Cond.stringRef "Shelfwalk" 162 "no such book") (List.mem_of_getElem? (i := 331) (by decide +kernel))),
    str_of (own := RX4) (k := 164) (hs (.exactly (.string "Shelfwalk" 164) "java/lang/String") (by decide +kernel)) (hts (Cond.stringRef "Shelfwalk" 164 "no such node") (List.mem_of_getElem? (i := 421) (by decide +kernel))),
    str_of (own := RX4) (k := 166) (hs (.exactly (.string "Shelfwalk" 166) "java/lang/String") (by decide +kernel)) (hts (Cond.stringRef "Shelfwalk" 166 "no such place") (List.mem_of_getElem? (i := 468) (by decide +kernel))),
    str_of (own := RX4) (k := 170) (hs (.exactly (.string "Shelfwalk" 170) "java/lang/String") (by decide +kernel)) (hts (Cond.stringRef "Shelfwalk" 170 "out of range") (List.mem_of_getElem? (i := 344) (by decide +kernel)))⟩

set_option maxHeartbeats 4000000 in
set_option maxRecDepth 100000 in
theorem law_XS {args : Array Value} {s : State} (hts : ∀ w ∈ lw_tbl, w.before args s = true) (hgv : (Jvm.Cond.and given_1 narrow_1).before args s = true) {ad : Nat → Nat} (hA : ∀ a : Nat, a < s.heap.size → ¬ fr 102 ad s.heap.size a) : XS 102 ad s.heap.size s ∧ va_Nc eA eI s ∧ va_Nc eS eI s ∧ va_Nc eS eA s := by
  have hs := flat_of_before _ hgv
  exact ⟨⟨vx_Zqof (hts (Cond.laysStatic "java/lang/Throwable" "UNASSIGNED_STACK" "[Ljava/lang/StackTraceElement;") (List.mem_of_getElem? (i := 286) (by decide +kernel))) (hts (Cond.initialized "java/lang/Throwable") (List.mem_of_getElem? (i := 21) (by decide +kernel))) (hs (.isRef (.static "java/lang/Throwable" "UNASSIGNED_STACK" "[Ljava/lang/StackTraceElement;")) (by decide +kernel)) hA, vx_Zqof (hts (Cond.laysStatic "java/lang/Throwable" "SUPPRESSED_SENTINEL" "Ljava/util/List;") (List.mem_of_getElem? (i := 288) (by decide +kernel))) (hts (Cond.initialized "java/lang/Throwable") (List.mem_of_getElem? (i := 21) (by decide +kernel))) (hs (.isRef (.static "java/lang/Throwable" "SUPPRESSED_SENTINEL" "Ljava/util/List;")) (by decide +kernel)) hA, law_XT hts hgv⟩, va_Nc.of (args := args) (hs (.not (.castable eA eI)) (by decide +kernel)), va_Nc.of (args := args) (hs (.not (.castable eS eI)) (by decide +kernel)), va_Nc.of (args := args) (hs (.not (.castable eS eA)) (by decide +kernel))⟩

theorem li_of {args : Array Value} {s : State} {own tx : String} {k : Nat} {A : Nat → Prop} (L : List Nat) (hN : L.length < 2 ^ 31) (hex : (Cond.exactly (.string own k) "java/lang/String").before args s = true) (hco : (Cond.eq (.field (.string own k) "java/lang/String" "coder" "B") (.int 0)).before args s = true)
    (har : (Cond.arrayOf (.field (.string own k) "java/lang/String" "value" "[B") .byte).before args s = true) (hle : (Cond.eq (.length (.field (.string own k) "java/lang/String" "value" "[B")) (.int (Int32.ofNat L.length))).before args s = true) (hel : ∀ j, j < L.length → (Cond.eq (.elem (.field (.string own k) "java/lang/String" "value" "[B") (.int (Int32.ofNat j))) (.int (nI (L.getD j 0)))).before args s = true) (hstr : (Cond.stringRef own k tx).before args s = true) (hA : ∀ a : Nat, a < s.heap.size → ¬ A a) :
    ∃ q : Nat × Nat, va_O "java/lang/String" q.1 A s s.heap ∧ va_OF "java/lang/String" "coder" "B" (.int 0) q.1 A s s.heap ∧ va_OF "java/lang/String" "value" "[B" (.ref q.2) q.1 A s s.heap ∧ va_T .byte q.2 L.length (fun j => .int (nI (L.getD j 0))) A s s.heap ∧ vk_R own k tx q.1 s := by
  obtain ⟨a, c, cA, kA, q1, q2, q3, q4, q5, q6, -⟩ := Cond.exactly_spec (args := args) (first := s) (o := none) (s := s) (idx := []) (t := .string own k) (cls := "java/lang/String") hex
  obtain ⟨t, ht, hT⟩ := va_Tof (f := fun j => .int (nI (L.getD j 0))) (A := A) hN har (va_eqt hle) (fun j hj => va_eqt (hel j hj)) hA
  exact ⟨(a, t), ⟨cA, q3, q5, by rw [q6]; exact q2, hA a (Array.getElem?_eq_some_iff.mp q3).1⟩, vk_OFof q1 (va_eqt hco) hA, vk_OFof q1 ht hA, hT, vk_R.of hstr q1⟩

set_option maxHeartbeats 4000000 in
set_option maxRecDepth 100000 in
theorem law_LI {args : Array Value} {s : State} (hts : ∀ w ∈ lw_tbl, w.before args s = true) (hgv : (Jvm.Cond.and given_1 narrow_1).before args s = true) {A : Nat → Prop} (hA : ∀ a : Nat, a < s.heap.size → ¬ A a) : ∃ K V : Nat → Nat, ∀ i, i < 9 → LI K V A s s.heap i := by
  have hs := flat_of_before _ hgv
  have h : ∀ i : Nat, ∃ q : Nat × Nat, i < 9 → va_O RJ0 q.1 A s s.heap ∧ va_OF RJ0 "coder" "B" (.int 0) q.1 A s s.heap ∧ va_OF RJ0 "value" "[B" (.ref q.2) q.1 A s s.heap ∧ va_T .byte q.2 (liN i) (fun j => .int (liC i j)) A s s.heap ∧ vk_R (liO i) (liI.getD i 0) (liT.getD i "") q.1 s := by
    intro i
    match i with
    | 0 =>
      obtain ⟨q, hq⟩ := li_of (own := "Shelfwalk") (k := 213) (tx := "none") (A := A) [110, 111, 110, 101] (by decide) (hs (.exactly (.string "Shelfwalk" 213) "java/lang/String") (by decide +kernel)) (hs (.eq (.field (.string "Shelfwalk" 213) "java/lang/String" "coder" "B") (.int 0)) (by decide +kernel)) (hs (.arrayOf (.field (.string "Shelfwalk" 213) "java/lang/String" "value" "[B") .byte) (by decide +kernel)) (hs (.eq (.length (.field (.string "Shelfwalk" 213) "java/lang/String" "value" "[B")) (.int (Int32.ofNat 4))) (by decide +kernel)) (fun j hj => hs _ ((by decide +kernel : ∀ j, j < 4 → Cond.eq (.elem (.field (.string "Shelfwalk" 213) "java/lang/String" "value" "[B") (.int (Int32.ofNat j))) (.int (nI (([110, 111, 110, 101] : List Nat).getD j 0))) ∈ flatC (Jvm.Cond.and given_1 narrow_1)) j hj)) (hts (Cond.stringRef "Shelfwalk" 213 "none") (List.mem_of_getElem? (i := 746) (by decide +kernel))) hA
      exact ⟨q, fun _ => hq⟩
    | 1 =>
      obtain ⟨q, hq⟩ := li_of (own := "Shelfwalk") (k := 225) (tx := "-b") (A := A) [45, 98] (by decide) (hs (.exactly (.string "Shelfwalk" 225) "java/lang/String") (by decide +kernel)) (hs (.eq (.field (.string "Shelfwalk" 225) "java/lang/String" "coder" "B") (.int 0)) (by decide +kernel)) (hs (.arrayOf (.field (.string "Shelfwalk" 225) "java/lang/String" "value" "[B") .byte) (by decide +kernel)) (hs (.eq (.length (.field (.string "Shelfwalk" 225) "java/lang/String" "value" "[B")) (.int (Int32.ofNat 2))) (by decide +kernel)) (fun j hj => hs _ ((by decide +kernel : ∀ j, j < 2 → Cond.eq (.elem (.field (.string "Shelfwalk" 225) "java/lang/String" "value" "[B") (.int (Int32.ofNat j))) (.int (nI (([45, 98] : List Nat).getD j 0))) ∈ flatC (Jvm.Cond.and given_1 narrow_1)) j hj)) (hts (Cond.stringRef "Shelfwalk" 225 "-b") (List.mem_of_getElem? (i := 771) (by decide +kernel))) hA
      exact ⟨q, fun _ => hq⟩
    | 2 =>
      obtain ⟨q, hq⟩ := li_of (own := "Shelfwalk") (k := 231) (tx := " open") (A := A) [32, 111, 112, 101, 110] (by decide) (hs (.exactly (.string "Shelfwalk" 231) "java/lang/String") (by decide +kernel)) (hs (.eq (.field (.string "Shelfwalk" 231) "java/lang/String" "coder" "B") (.int 0)) (by decide +kernel)) (hs (.arrayOf (.field (.string "Shelfwalk" 231) "java/lang/String" "value" "[B") .byte) (by decide +kernel)) (hs (.eq (.length (.field (.string "Shelfwalk" 231) "java/lang/String" "value" "[B")) (.int (Int32.ofNat 5))) (by decide +kernel)) (fun j hj => hs _ ((by decide +kernel : ∀ j, j < 5 → Cond.eq (.elem (.field (.string "Shelfwalk" 231) "java/lang/String" "value" "[B") (.int (Int32.ofNat j))) (.int (nI (([32, 111, 112, 101, 110] : List Nat).getD j 0))) ∈ flatC (Jvm.Cond.and given_1 narrow_1)) j hj)) (hts (Cond.stringRef "Shelfwalk" 231 " open") (List.mem_of_getElem? (i := 775) (by decide +kernel))) hA
      exact ⟨q, fun _ => hq⟩
    | 3 =>
      obtain ⟨q, hq⟩ := li_of (own := "Shelfwalk") (k := 233) (tx := " hidden") (A := A) [32, 104, 105, 100, 100, 101, 110] (by decide) (hs (.exactly (.string "Shelfwalk" 233) "java/lang/String") (by decide +kernel)) (hs (.eq (.field (.string "Shelfwalk" 233) "java/lang/String" "coder" "B") (.int 0)) (by decide +kernel)) (hs (.arrayOf (.field (.string "Shelfwalk" 233) "java/lang/String" "value" "[B") .byte) (by decide +kernel)) (hs (.eq (.length (.field (.string "Shelfwalk" 233) "java/lang/String" "value" "[B")) (.int (Int32.ofNat 7))) (by decide +kernel)) (fun j hj => hs _ ((by decide +kernel : ∀ j, j < 7 → Cond.eq (.elem (.field (.string "Shelfwalk" 233) "java/lang/String" "value" "[B") (.int (Int32.ofNat j))) (.int (nI (([32, 104, 105, 100, 100, 101, 110] : List Nat).getD j 0))) ∈ flatC (Jvm.Cond.and given_1 narrow_1)) j hj)) (hts (Cond.stringRef "Shelfwalk" 233 " hidden") (List.mem_of_getElem? (i := 776) (by decide +kernel))) hA
      exact ⟨q, fun _ => hq⟩
    | 4 =>
      obtain ⟨q, hq⟩ := li_of (own := "Shelfwalk") (k := 235) (tx := " closed") (A := A) [32, 99, 108, 111, 115, 101, 100] (by decide) (hs (.exactly (.string "Shelfwalk" 235) "java/lang/String") (by decide +kernel)) (hs (.eq (.field (.string "Shelfwalk" 235) "java/lang/String" "coder" "B") (.int 0)) (by decide +kernel)) (hs (.arrayOf (.field (.string "Shelfwalk" 235) "java/lang/String" "value" "[B") .byte) (by decide +kernel)) (hs (.eq (.length (.field (.string "Shelfwalk" 235) "java/lang/String" "value" "[B")) (.int (Int32.ofNat 7))) (by decide +kernel)) (fun j hj => hs _ ((by decide +kernel : ∀ j, j < 7 → Cond.eq (.elem (.field (.string "Shelfwalk" 235) "java/lang/String" "value" "[B") (.int (Int32.ofNat j))) (.int (nI (([32, 99, 108, 111, 115, 101, 100] : List Nat).getD j 0))) ∈ flatC (Jvm.Cond.and given_1 narrow_1)) j hj)) (hts (Cond.stringRef "Shelfwalk" 235 " closed") (List.mem_of_getElem? (i := 777) (by decide +kernel))) hA
      exact ⟨q, fun _ => hq⟩
    | 5 =>
      obtain ⟨q, hq⟩ := li_of (own := "Shelfwalk") (k := 213) (tx := "none") (A := A) [110, 111, 110, 101] (by decide) (hs (.exactly (.string "Shelfwalk" 213) "java/lang/String") (by decide +kernel)) (hs (.eq (.field (.string "Shelfwalk" 213) "java/lang/String" "coder" "B") (.int 0)) (by decide +kernel)) (hs (.arrayOf (.field (.string "Shelfwalk" 213) "java/lang/String" "value" "[B") .byte) (by decide +kernel)) (hs (.eq (.length (.field (.string "Shelfwalk" 213) "java/lang/String" "value" "[B")) (.int (Int32.ofNat 4))) (by decide +kernel)) (fun j hj => hs _ ((by decide +kernel : ∀ j, j < 4 → Cond.eq (.elem (.field (.string "Shelfwalk" 213) "java/lang/String" "value" "[B") (.int (Int32.ofNat j))) (.int (nI (([110, 111, 110, 101] : List Nat).getD j 0))) ∈ flatC (Jvm.Cond.and given_1 narrow_1)) j hj)) (hts (Cond.stringRef "Shelfwalk" 213 "none") (List.mem_of_getElem? (i := 746) (by decide +kernel))) hA
      exact ⟨q, fun _ => hq⟩
    | 6 =>
      obtain ⟨q, hq⟩ := li_of (own := "Shelfwalk") (k := 231) (tx := " open") (A := A) [32, 111, 112, 101, 110] (by decide) (hs (.exactly (.string "Shelfwalk" 231) "java/lang/String") (by decide +kernel)) (hs (.eq (.field (.string "Shelfwalk" 231) "java/lang/String" "coder" "B") (.int 0)) (by decide +kernel)) (hs (.arrayOf (.field (.string "Shelfwalk" 231) "java/lang/String" "value" "[B") .byte) (by decide +kernel)) (hs (.eq (.length (.field (.string "Shelfwalk" 231) "java/lang/String" "value" "[B")) (.int (Int32.ofNat 5))) (by decide +kernel)) (fun j hj => hs _ ((by decide +kernel : ∀ j, j < 5 → Cond.eq (.elem (.field (.string "Shelfwalk" 231) "java/lang/String" "value" "[B") (.int (Int32.ofNat j))) (.int (nI (([32, 111, 112, 101, 110] : List Nat).getD j 0))) ∈ flatC (Jvm.Cond.and given_1 narrow_1)) j hj)) (hts (Cond.stringRef "Shelfwalk" 231 " open") (List.mem_of_getElem? (i := 775) (by decide +kernel))) hA
      exact ⟨q, fun _ => hq⟩
    | 7 =>
      obtain ⟨q, hq⟩ := li_of (own := "Shelfwalk") (k := 233) (tx := " hidden") (A := A) [32, 104, 105, 100, 100, 101, 110] (by decide) (hs (.exactly (.string "Shelfwalk" 233) "java/lang/String") (by decide +kernel)) (hs (.eq (.field (.string "Shelfwalk" 233) "java/lang/String" "coder" "B") (.int 0)) (by decide +kernel)) (hs (.arrayOf (.field (.string "Shelfwalk" 233) "java/lang/String" "value" "[B") .byte) (by decide +kernel)) (hs (.eq (.length (.field (.string "Shelfwalk" 233) "java/lang/String" "value" "[B")) (.int (Int32.ofNat 7))) (by decide +kernel)) (fun j hj => hs _ ((by decide +kernel : ∀ j, j < 7 → Cond.eq (.elem (.field (.string "Shelfwalk" 233) "java/lang/String" "value" "[B") (.int (Int32.ofNat j))) (.int (nI (([32, 104, 105, 100, 100, 101, 110] : List Nat).getD j 0))) ∈ flatC (Jvm.Cond.and given_1 narrow_1)) j hj)) (hts (Cond.stringRef "Shelfwalk" 233 " hidden") (List.mem_of_getElem? (i := 776) (by decide +kernel))) hA
      exact ⟨q, fun _ => hq⟩
    | 8 =>
      obtain ⟨q, hq⟩ := li_of (own := "Shelfwalk") (k := 235) (tx := " closed") (A := A) [32, 99, 108, 111, 115, 101, 100] (by decide) (hs (.exactly (.string "Shelfwalk" 235) "java/lang/String") (by decide +kernel)) (hs (.eq (.field (.string "Shelfwalk" 235) "java/lang/String" "coder" "B") (.int 0)) (by decide +kernel)) (hs (.arrayOf (.field (.string "Shelfwalk" 235) "java/lang/String" "value" "[B") .byte) (by decide +kernel)) (hs (.eq (.length (.field (.string "Shelfwalk" 235) "java/lang/String" "value" "[B")) (.int (Int32.ofNat 7))) (by decide +kernel)) (fun j hj => hs _ ((by decide +kernel : ∀ j, j < 7 → Cond.eq (.elem (.field (.string "Shelfwalk" 235) "java/lang/String" "value" "[B") (.int (Int32.ofNat j))) (.int (nI (([32, 99, 108, 111, 115, 101, 100] : List Nat).getD j 0))) ∈ flatC (Jvm.Cond.and given_1 narrow_1)) j hj)) (hts (Cond.stringRef "Shelfwalk" 235 " closed") (List.mem_of_getElem? (i := 777) (by decide +kernel))) hA
      exact ⟨q, fun _ => hq⟩
    | i + 9 => exact ⟨(0, 0), fun z => absurd z (by omega)⟩
  obtain ⟨f, hf⟩ := Classical.axiomOfChoice h
  exact ⟨fun i => (f i).1, fun i => (f i).2, fun i hi => hf i hi⟩

set_option maxRecDepth 100000 in
theorem law_tDigitOnes : ((flatC (Jvm.Cond.and given_1 narrow_1)).drop 14).take 100 = (List.range 100).map (fun j => Cond.eq (.elem (.static "java/lang/Integer" "DigitOnes" "[B") (.int (Int32.ofNat j))) (.int (nI (48 + j % 10)))) := by decide +kernel

set_option maxRecDepth 100000 in
theorem law_tDigitTens : ((flatC (Jvm.Cond.and given_1 narrow_1)).drop 117).take 100 = (List.range 100).map (fun j => Cond.eq (.elem (.static "java/lang/Integer" "DigitTens" "[B") (.int (Int32.ofNat j))) (.int (nI (48 + j / 10)))) := by decide +kernel

set_option maxHeartbeats 4000000 in
set_option maxRecDepth 100000 in
theorem law_XL {args : Array Value} {s : State} (hts : ∀ w ∈ lw_tbl, w.before args s = true) (hgv : (Jvm.Cond.and given_1 narrow_1).before args s = true) {ad : Nat → Nat} (hA : ∀ a : Nat, a < s.heap.size → ¬ fr 102 ad s.heap.size a) : ∃ (K V : Nat → Nat) (tO tT : Nat), XL 102 ad K V tO tT s.heap.size s := by
  have hs := flat_of_before _ hgv
  obtain ⟨K, V, hL⟩ := law_LI hts hgv hA
  obtain ⟨tO, eO, hO⟩ := va_Tof (N := 100) (f := fun j => .int (nI (48 + j % 10))) (A := fr 102 ad s.heap.size) (by decide) (hs (.arrayOf (.static "java/lang/Integer" "DigitOnes" "[B") .byte) (by decide +kernel)) (va_eqt (hs (.eq (.length (.static "java/lang/Integer" "DigitOnes" "[B")) (.int (Int32.ofNat 100))) (by decide +kernel))) (fun j hj => va_eqt (hs _ (List.mem_of_mem_drop (List.mem_of_mem_take (by rw [law_tDigitOnes]; exact List.mem_map.mpr ⟨j, List.mem_range.mpr hj, rfl⟩))))) hA
  obtain ⟨tT, eT, hT⟩ := va_Tof (N := 100) (f := fun j => .int (nI (48 + j / 10))) (A := fr 102 ad s.heap.size) (by decide) (hs (.arrayOf (.static "java/lang/Integer" "DigitTens" "[B") .byte) (by decide +kernel)) (va_eqt (hs (.eq (.length (.static "java/lang/Integer" "DigitTens" "[B")) (.int (Int32.ofNat 100))) (by decide +kernel))) (fun j hj => va_eqt (hs _ (List.mem_of_mem_drop (List.mem_of_mem_take (by rw [law_tDigitTens]; exact List.mem_map.mpr ⟨j, List.mem_range.mpr hj, rfl⟩))))) hA
  exact ⟨K, V, tO, tT, va_Zof (hts (Cond.laysStatic "java/lang/String" "COMPACT_STRINGS" "Z") (List.mem_of_getElem? (i := 123) (by decide +kernel))) (hts (Cond.initialized "java/lang/String") (List.mem_of_getElem? (i := 18) (by decide +kernel))) (va_eqt (hs (.eq (.static "java/lang/String" "COMPACT_STRINGS" "Z") (.int 1)) (by decide +kernel))) hA, va_Zqof (hts (Cond.laysStatic "jdk/internal/util/Preconditions" "SIOOBE_FORMATTER" "Ljava/util/function/BiFunction;") (List.mem_of_getElem? (i := 550) (by decide +kernel))) (hts (Cond.initialized "jdk/internal/util/Preconditions") (List.mem_of_getElem? (i := 30) (by decide +kernel))) (hs (.isRef (.static "jdk/internal/util/Preconditions" "SIOOBE_FORMATTER" "Ljava/util/function/BiFunction;")) (by decide +kernel)) hA, ⟨va_Zof (hts (Cond.laysStatic "java/lang/Integer" "DigitOnes" "[B") (List.mem_of_getElem? (i := 620) (by decide +kernel))) (hts (Cond.initialized "java/lang/Integer") (List.mem_of_getElem? (i := 32) (by decide +kernel))) eO hA, hO⟩, ⟨va_Zof (hts (Cond.laysStatic "java/lang/Integer" "DigitTens" "[B") (List.mem_of_getElem? (i := 622) (by decide +kernel))) (hts (Cond.initialized "java/lang/Integer") (List.mem_of_getElem? (i := 32) (by decide +kernel))) eT hA, hT⟩, hL⟩

set_option maxHeartbeats 4000000 in
set_option maxRecDepth 100000 in
theorem law_Z {args : Array Value} {s : State} (hts : ∀ w ∈ lw_tbl, w.before args s = true) (hgv : (Jvm.Cond.and given_1 narrow_1).before args s = true) {A : Nat → Prop} (hA : ∀ a : Nat, a < s.heap.size → ¬ A a) : va_Z RJ0 "COMPACT_STRINGS" "Z" (.int 1) A s s.heap := va_Zof (hts (Cond.laysStatic "java/lang/String" "COMPACT_STRINGS" "Z") (List.mem_of_getElem? (i := 123) (by decide +kernel))) (hts (Cond.initialized "java/lang/String") (List.mem_of_getElem? (i := 18) (by decide +kernel))) (va_eqt (flat_of_before _ hgv (.eq (.static "java/lang/String" "COMPACT_STRINGS" "Z") (.int 1)) (by decide +kernel))) hA
