/-! throwing over the world -/
abbrev eI : String := "java/lang/IndexOutOfBoundsException"
abbrev eA : String := "java/lang/IllegalArgumentException"
abbrev eS : String := "java/lang/IllegalStateException"
abbrev xNames : List String := ["java/lang/RuntimeException", "java/lang/Exception"]
/-- what throws need of the tables -/
def XT (U : State) : Prop := (va_Nw (.declares (Bundle.initS "java/lang/RuntimeException")) U ∧ va_Nw (.declares (Bundle.initS "java/lang/Exception")) U ∧ va_Nw (.declares (Bundle.initS Bundle.tN)) U ∧ va_Nw (.castable eI eI) U ∧ va_Nw (.castable eA eA) U ∧ va_Nw (.castable eS eS) U) ∧
  (∃ a, vk_R RX4 83 "no such loan" a U) ∧ (∃ a, vk_R RX4 159 "no such reader" a U) ∧ (∃ a, vk_R RX4 162 "no such book" a U) ∧ (∃ a, vk_R RX4 164 "no such node" a U) ∧ (∃ a, vk_R RX4 166 "no such place" a U) ∧ (∃ a, vk_R RX4 170 "out of range" a U)
theorem XT.warm {s U : State} (hW : s.WarmedH U.vm) (h : XT s) : XT U := by
  obtain ⟨⟨h1, h2, h3, h4, h5, h6⟩, ⟨a1, k1⟩, ⟨a2, k2⟩, ⟨a3, k3⟩, ⟨a4, k4⟩, ⟨a5, k5⟩, ⟨a6, k6⟩⟩ := h
  exact ⟨⟨h1.warmD hW, h2.warmD hW, h3.warmD hW, h4.warmC hW, h5.warmC hW, h6.warmC hW⟩, ⟨a1, k1.warm hW⟩, ⟨a2, k2.warm hW⟩, ⟨a3, k3.warm hW⟩, ⟨a4, k4.warm hW⟩, ⟨a5, k5.warm hW⟩, ⟨a6, k6.warm hW⟩⟩
theorem XT.same {u U : State} (hv : U.vm = u.vm) (h : XT u) : XT U := by
  obtain ⟨⟨h1, h2, h3, h4, h5, h6⟩, ⟨a1, k1⟩, ⟨a2, k2⟩, ⟨a3, k3⟩, ⟨a4, k4⟩, ⟨a5, k5⟩, ⟨a6, k6⟩⟩ := h
  exact ⟨⟨va_Nw.same rfl hv.symm h1, va_Nw.same rfl hv.symm h2, va_Nw.same rfl hv.symm h3, va_Nw.same rfl hv.symm h4, va_Nw.same rfl hv.symm h5, va_Nw.same rfl hv.symm h6⟩, ⟨a1, k1.same hv⟩, ⟨a2, k2.same hv⟩, ⟨a3, k3.same hv⟩, ⟨a4, k4.same hv⟩, ⟨a5, k5.same hv⟩, ⟨a6, k6.same hv⟩⟩
/-- and of the heap: Throwable's two statics, outside of what may change -/
def XS (nW : Nat) (ad : Nat → Nat) (sz : Nat) (U : State) : Prop := vx_Zq Bundle.tN "UNASSIGNED_STACK" Bundle.steD (fr nW ad sz) U U.heap ∧ vx_Zq Bundle.tN "SUPPRESSED_SENTINEL" Bundle.listD (fr nW ad sz) U U.heap ∧ XT U
theorem XS.go {nW : Nat} {ad : Nat → Nat} {s U : State} {H : Heap} {locs : List Loc} (h : XS nW ad s.heap.size s) (hS : va_S (fr nW ad s.heap.size) s.heap H locs) (hU : U.heap = H) (hW : s.WarmedH U.vm) : XS nW ad H.size U := by
  obtain ⟨h1, h2, h3⟩ := h
  exact ⟨by rw [hU]; exact ((h1.moved hW.alike).kept hS.2.1).narrow (fr_mono hS.1), by rw [hU]; exact ((h2.moved hW.alike).kept hS.2.1).narrow (fr_mono hS.1), h3.warm hW⟩
def wPreX (nW : Nat) (D : va_G) (cA : Nat → ClassId) (ad : Nat → Nat) (I : SI) (J : SJ) (X : SX) (sz : Nat) : State → Prop := fun U => wPre nW D cA ad I J X sz U ∧ XS nW ad sz U
theorem wPreX_blind {nW : Nat} {D : va_G} {cA : Nat → ClassId} {ad : Nat → Nat} {I : SI} {J : SJ} {X : SX} {sz : Nat} {As : List Value} : FrameBlind (va_Pc As (wPreX nW D cA ad I J X sz)) := fun a U g mk q => ⟨q.1, ⟨q.2.1.1, q.2.1.2.1, va_K.moved (u := U) (U := U.calling g mk a) (Vm.Alike.refl U.vm) q.2.1.2.2⟩, q.2.2.1.moved (U := U.calling g mk a) (Vm.Alike.refl U.vm), q.2.2.2.1.moved (U := U.calling g mk a) (Vm.Alike.refl U.vm), q.2.2.2.2.same (U := U.calling g mk a) rfl⟩
theorem w_preSX {nW : Nat} {s : State} {H : Heap} {locs : List Loc} {D : va_G} {cA : Nat → ClassId} {ad : Nat → Nat} {I : SI} {J : SJ} {X : SX} {As : List Value} (hK : WK D cA s) (hP : WP nW D cA ad I J X H) (hX : XS nW ad s.heap.size s) (hS : va_S (fr nW ad s.heap.size) s.heap H locs) : PreS s H (va_Pc As (wPreX nW D cA ad I J X H.size)) As := ⟨wPreX_blind, fun U hU hW => ⟨rfl, ⟨by rw [hU], by rw [hU]; exact hP, va_K.moved hW.alike hK⟩, hX.go hS hU hW⟩⟩
theorem w_preVX {nW : Nat} {s : State} {H : Heap} {locs : List Loc} {D : va_G} {cA : Nat → ClassId} {ad : Nat → Nat} {I : SI} {J : SJ} {X : SX} {As : List Value} (hK : WK D cA s) (hP : WP nW D cA ad I J X H) (hX : XS nW ad s.heap.size s) (hS : va_S (fr nW ad s.heap.size) s.heap H locs) (k : Nat) (hkN : k < nW) {ci : Nat} {q : vw_C} (hk : kd k = 0 ∧ ob k = ci) (hq : vwCl[ci]? = some q) : PreV s H q.1 (ad k) (va_Pc (.ref (ad k) :: As) (wPreX nW D cA ad I J X H.size)) As := ⟨wPreX_blind, va_recv hK hP hq ((wld_at hkN).trans (by rw [ent_o hk.1, hk.2])), fun U hU hW => ⟨rfl, ⟨by rw [hU], by rw [hU]; exact hP, va_K.moved hW.alike hK⟩, hX.go hS hU hW⟩⟩
/-- it throws an E, the world as it was -/
abbrev xT (nW : Nat) (D : va_G) (cA : Nat → ClassId) (ad : Nat → Nat) (sz : Nat) (E : String) (I : SI) (J : SJ) (X : SX) : String → State → State → Prop := vx_X (fun _ : Unit => True) (fun E' _ t => E' = E ∧ WP nW D cA ad I J X t.heap ∧ WK D cA t) (fr nW ad sz)
/-- it never returns -/
abbrev nV (nW : Nat) (ad : Nat → Nat) (sz : Nat) := va_Qv (fun (_ : Unit) => False) (fun (_ : Unit) (_ : State) => True) (fr nW ad sz)
abbrev nInt (nW : Nat) (ad : Nat → Nat) (sz : Nat) := va_Qi (fun (_ : Int32) (_ : Unit) => False) (fun (_ : Unit) (_ : State) => True) (fr nW ad sz)
abbrev nDbl (nW : Nat) (ad : Nat → Nat) (sz : Nat) := va_Qd (fun (_ : UInt64) (_ : Unit) => False) (fun (_ : Unit) (_ : State) => True) (fr nW ad sz)
section WTHROW
variable {p : Program} {l : Launch} {e : Env} {R : Room} {s : State} {m : MethodId} {args : Array Value} {below : List Frame} {meth : Method} {c : Code} {H : Heap} {locs : List Loc} {cells slots : Nat} {Q : State → Prop}
variable {nW : Nat} {cc : ByteArray} {pc : Nat} {ls : Array Slot} {rest : List Value} {D : va_G} {cA : Nat → ClassId} {ad : Nat → Nat} {I : SI} {J : SJ} {X : SX} {Qc : Array Value → State → Outcome → State → Prop}
theorem w_kept {H1 : Heap} (hP : WP nW D cA ad I J X H) (h : ∀ q : Nat, q < H.size → H1[q]? = H[q]?) : WP nW D cA ad I J X H1 := hP.kept (fun k q hk => h q.1 (hP k q hk).lt)
/-- new E, its text, athrow; not caught here -/
theorem w_throw (hexec : p.tables.exec = Jvm.exec) (hb : c.code = cc) (hl : l.stackTraces = false) {cls text : String} {ik is ic sa nL : Nat} {Ts : List Cond} (hts : ∀ w ∈ Ts, w.before args s = true) (hown : s.vm.findClass RX4 = some m.cls) (hml : c.maxLocals = nL) (hls : ls.size = nL)
    (hcls : Bundle.fit cls = true) (hk : Cond.classLink RX4 ik cls ∈ Ts) (hini : Cond.initialized cls ∈ Ts) (hstr : vk_R RX4 is text sa s) (h1 : ∀ w ∈ (vx_atS RX4 ic cls xNames).filter goodWord, w ∈ Ts) (hcast : va_Nw (.castable cls cls) s)
    (h2 : ∀ w ∈ (vx_atS RX4 ic cls xNames).filter (fun w => !goodWord w), w ∈ [Cond.declares (Bundle.initS "java/lang/RuntimeException"), .declares (Bundle.initS "java/lang/Exception"), .declares (Bundle.initS Bundle.tN), .castable cls cls])
    (hgood : ∀ w ∈ Cond.classLink RX4 ik cls :: Cond.initialized cls :: vx_atS RX4 ic cls xNames, vx_ot w = true)
    (hK : WK D cA s) (hP : WP nW D cA ad I J X H) (hX : XS nW ad s.heap.size s) (hS : va_S (fr nW ad s.heap.size) s.heap H locs)
    (d0 : decode cc pc = .ok (.new ik, 3)) (d3 : decode cc (pc + 3) = .ok (.dup, 1)) (d4 : decode cc (pc + 4) = .ok (.ldc is, 2)) (d6 : decode cc (pc + 6) = .ok (.invokespecial ic, 3)) (d9 : decode cc (pc + 9) = .ok (.athrow, 1))
    (hout : ∀ x ∈ c.exceptionTable.toList, False) (hRframes : 5 < R.frames) (hRlocals : (rest.map fun v => v.category).sum + 82 ≤ R.locals) (hRcells : cells + 1 ≤ R.cells) (hRslots : slots + 6 ≤ R.slots) (hlocks : meth.locks = false) {mc ms : Nat} (hc : cells + 1 ≤ mc) (hs : slots + 6 ≤ ms) :
    W p l e R s m args below meth c H locs cells slots (vx_MQ below Qc (xT nW D cA ad s.heap.size cls I J X) args s mc ms (fr nW ad s.heap.size)) (F0 m pc ls rest) := by
  obtain ⟨g1, g2, g3, -⟩ := hX.2.2.1
  exact vx_throwS (names := xNames) (A := fr nW ad s.heap.size) hexec hb hl hown hcls (by decide +kernel) (hts _ hk) (hts _ hini) hstr (vx_hat (fun w hw => hts w (h1 w hw)) h2 (vx_c (va_Nw.use rfl g1) (vx_c (va_Nw.use rfl g2) (vx_c (va_Nw.use rfl g3) (vx_c (va_Nw.use rfl hcast) vx_n))))) hgood hX.1 hX.2.1 hS (hls.trans hml.symm) d0 d3 d4 d6 d9 (fun x hx => (hout x hx).elim) hRframes hRlocals hRcells hRslots hlocks
    (fun t hvm hz hq => ⟨(), trivial, ⟨rfl, w_kept hP hq, va_K.moved hvm hK⟩, Nat.le_trans hS.1 hz, fun q q1 q2 => (hq q (Nat.lt_of_lt_of_le q1 hS.1)).trans (hS.2.1 q q1 q2)⟩) hS.2.2 hc hs
/-- a call that throws, and isn't caught here -/
theorem w_callxV {st0 : List Value} {a : Array Value} {E : String} {mc ms mc0 ms0 : Nat} (hr : vx_Run p l e R s m args below meth c H locs cells slots mc ms (F0 m pc ls st0) rest (nV nW ad H.size a) (xT nW D cA ad H.size E I J X) (fr nW ad H.size)) (hK : WK D cA s) (hS : va_S (fr nW ad s.heap.size) s.heap H locs) (hout : ∀ x ∈ c.exceptionTable.toList, False) (hlocks : meth.locks = false) (hc : cells + mc ≤ mc0) (hs : slots + ms ≤ ms0) :
    W p l e R s m args below meth c H locs cells slots (vx_MQ below Qc (xT nW D cA ad s.heap.size E I J X) args s mc0 ms0 (fr nW ad s.heap.size)) (F0 m pc ls st0) :=
  vx_callv hr hS (fun q _ h => fr_mono hS.1 q h) (fr_mono hS.1) (fun q _ h => fr_mono hS.1 q h)
    (fun E' ce q9 u t H1 locs1 ht hvm hp hB hz hk hS1 hce hcv hcl => vx_out (fun x hx => (hout x hx).elim) hlocks hce hcv hcl (fun t' ht' hvm' => ⟨(), trivial, ⟨hB.1, by rw [ht', ← ht]; exact hB.2.1, va_K.moved hvm' hK⟩, by rw [ht']; exact hS1.1, fun q q1 q2 => by rw [ht']; exact hS1.2.1 q q1 q2⟩) hS1.2.2 hc hs)
    (fun u t H1 locs1 ht hvm hp hB hz hk hS1 => hp.elim)
/-- a call that throws, and is caught here or thrown on: by the goal behind -/
theorem w_callxI {st0 : List Value} {a : Array Value} {E : String} {mc ms : Nat} (hr : vx_Run p l e R s m args below meth c H locs cells slots mc ms (F0 m pc ls st0) rest (nInt nW ad H.size a) (xT nW D cA ad H.size E I J X) (fr nW ad H.size)) (hS : va_S (fr nW ad s.heap.size) s.heap H locs)
    (kx : ∀ (ce : Cell) (q9 : Addr) (H1 : Heap) (locs1 : List Loc), WP nW D cA ad I J X H1 → va_S (fr nW ad s.heap.size) s.heap H1 locs1 → H1[q9]? = some ce → ce.vm = .none → s.vm.findClass E = some ce.cls → vx_W p l e R s m args below meth c H1 locs1 (cells + mc) (slots + ms) Q (F0 m pc ls rest) q9) : W p l e R s m args below meth c H locs cells slots Q (F0 m pc ls st0) :=
  vx_calli hr hS (fun q _ h => fr_mono hS.1 q h) (fr_mono hS.1) (fun q _ h => fr_mono hS.1 q h)
    (fun E' ce q9 u t H1 locs1 ht hvm hp hB hz hk hS1 hce hcv hcl => by obtain ⟨rfl, hB1, -⟩ := hB; subst ht; exact kx ce q9 _ _ hB1 hS1 hce hcv hcl)
    (fun r u t H1 locs1 ht hvm hp hB hz hk hS1 => hp.elim)
theorem w_callxD {st0 : List Value} {a : Array Value} {E : String} {mc ms : Nat} (hr : vx_Run p l e R s m args below meth c H locs cells slots mc ms (F0 m pc ls st0) rest (nDbl nW ad H.size a) (xT nW D cA ad H.size E I J X) (fr nW ad H.size)) (hS : va_S (fr nW ad s.heap.size) s.heap H locs)
    (kx : ∀ (ce : Cell) (q9 : Addr) (H1 : Heap) (locs1 : List Loc), WP nW D cA ad I J X H1 → va_S (fr nW ad s.heap.size) s.heap H1 locs1 → H1[q9]? = some ce → ce.vm = .none → s.vm.findClass E = some ce.cls → vx_W p l e R s m args below meth c H1 locs1 (cells + mc) (slots + ms) Q (F0 m pc ls rest) q9) : W p l e R s m args below meth c H locs cells slots Q (F0 m pc ls st0) :=
  vx_calld hr hS (fun q _ h => fr_mono hS.1 q h) (fr_mono hS.1) (fun q _ h => fr_mono hS.1 q h)
    (fun E' ce q9 u t H1 locs1 ht hvm hp hB hz hk hS1 hce hcv hcl => by obtain ⟨rfl, hB1, -⟩ := hB; subst ht; exact kx ce q9 _ _ hB1 hS1 hce hcv hcl)
    (fun r u t H1 locs1 ht hvm hp hB hz hk hS1 => hp.elim)
theorem w_callxU {st0 : List Value} {a : Array Value} {E : String} {mc ms : Nat} (hr : vx_Run p l e R s m args below meth c H locs cells slots mc ms (F0 m pc ls st0) rest (nV nW ad H.size a) (xT nW D cA ad H.size E I J X) (fr nW ad H.size)) (hS : va_S (fr nW ad s.heap.size) s.heap H locs)
    (kx : ∀ (ce : Cell) (q9 : Addr) (H1 : Heap) (locs1 : List Loc), WP nW D cA ad I J X H1 → va_S (fr nW ad s.heap.size) s.heap H1 locs1 → H1[q9]? = some ce → ce.vm = .none → s.vm.findClass E = some ce.cls → vx_W p l e R s m args below meth c H1 locs1 (cells + mc) (slots + ms) Q (F0 m pc ls rest) q9) : W p l e R s m args below meth c H locs cells slots Q (F0 m pc ls st0) :=
  vx_callv hr hS (fun q _ h => fr_mono hS.1 q h) (fr_mono hS.1) (fun q _ h => fr_mono hS.1 q h)
    (fun E' ce q9 u t H1 locs1 ht hvm hp hB hz hk hS1 hce hcv hcl => by obtain ⟨rfl, hB1, -⟩ := hB; subst ht; exact kx ce q9 _ _ hB1 hS1 hce hcv hcl)
    (fun u t H1 locs1 ht hvm hp hB hz hk hS1 => hp.elim)
end WTHROW
