/-! shares: no number is lost, both sides answer one number -/
/-- below 2 to the K, by its bits -/
def mg (a : UInt64) (K : Nat) : Prop := a.toNat % 2 ^ 63 < K * 2 ^ 52
theorem mg_fin {a : UInt64} {K : Nat} (h : mg a K) (hK : K ≤ 2047) : fD a := FP.Core.fin_of_lt h hK
theorem mg_mono {a : UInt64} {K L : Nat} (h : mg a K) (hKL : K ≤ L) : mg a L := Nat.lt_of_lt_of_le h (Nat.mul_le_mul_right _ hKL)
theorem mg_sub {a b : UInt64} {K : Nat} (ha : mg a K) (hb : mg b K) (hK : K ≤ 2047) : mg (FP.dsub a b) (K + 2) := FP.Core.dsub_mag ha hb hK
theorem mg_mul {a b : UInt64} {K L : Nat} (ha : mg a K) (hb : mg b L) (hK : K ≤ 2047) (hL : L ≤ 2047) : mg (FP.dmul a b) (K + L - 1025 + 3) := FP.Core.dmul_mag ha hb hK hL
theorem zN_bits {a : UInt64} (h : fD a) : (zD a).natAbs = FP.Core.unitsOf FP.Core.b64 (a.toNat % 2 ^ 63) := by
  have h1 := FP.Core.zmag_bits (FP.Core.DFin.ne_nan h)
  rw [← h1]
  unfold zD FP.Core.zval
  exact sg_abs _ _
theorem un_start {K : Nat} (h : 1 ≤ K) : FP.Core.unitsOf FP.Core.b64 (K * 2 ^ 52) = 2 ^ 52 * 2 ^ (K - 1) := by
  have := FP.Core.unitsOf_start (f := FP.Core.b64) h
  rw [FP.Core.tails_b64] at this
  exact this
theorem mg_z {a : UInt64} (h : fD a) {K : Nat} (hK : 1 ≤ K) (hz : (zD a).natAbs < 2 ^ 52 * 2 ^ (K - 1)) : mg a K := by
  rw [zN_bits h, ← un_start hK, FP.Core.unitsOf_lt_iff] at hz
  exact hz
theorem lo_z {a : UInt64} (h : fD a) {K : Nat} (hK : 1 ≤ K) (hz : 2 ^ 52 * 2 ^ (K - 1) ≤ (zD a).natAbs) : K * 2 ^ 52 ≤ a.toNat % 2 ^ 63 := by
  rw [zN_bits h, ← un_start hK, FP.Core.unitsOf_le_iff] at hz
  exact hz
theorem u8 : 2 ^ 52 * 2 ^ (1026 - 1) = 8 * uD := by
  rw [uD_eq, show (8 : Nat) = 2 ^ 3 from rfl]
  exact (pw2 (show 52 + (1026 - 1) = 1077 from rfl)).symm.trans (pw2 (show 3 + 1074 = 1077 from rfl))
theorem u2 : 2 ^ 52 * 2 ^ (1024 - 1) = 2 * uD := by
  have h := pw2 (show 1 + 1074 = 1075 from rfl)
  rw [Nat.pow_one] at h
  rw [uD_eq]
  exact (pw2 (show 52 + (1024 - 1) = 1075 from rfl)).symm.trans h
theorem g35 : 2 ^ 52 * 2 ^ (1018 - 1) = 34359738368 * gD := by
  rw [gD_eq, show (34359738368 : Nat) = 2 ^ 35 from rfl]
  exact (pw2 (show 52 + (1018 - 1) = 1069 from rfl)).symm.trans (pw2 (show 35 + 1034 = 1069 from rfl))
section Share
variable {M : Nat → Nat → UInt64} {b x : Nat → UInt64}
theorem seq_in (h : inM 0 M) : ∀ k, k ≤ 9 → inM k (seqM M k)
  | 0, _ => h
  | k + 1, hk => in_step (by omega) (seq_in h k (by omega))
theorem ent_mg {k i j : Nat} (h : inM k M) (hi : i < 9) (hj : j < 9) : mg (M i j) 1026 := by
  obtain ⟨a1, a2⟩ := h.1 i j hi hj
  have up := uD_pos
  refine mg_z a1 (by decide) ?_
  rw [u8]
  unfold zN at a2
  omega
theorem mlt_mg {k i : Nat} (hk : k < 9) (h : inM k M) (hki : k < i) (hi : i < 9) : mg (mlt M k i) 1024 := by
  obtain ⟨f1, f2⟩ := fac_ok hk h
  have up := uD_pos
  have := suN_at (f := fun i => if k < i then (zD (mlt M k i)).natAbs else 0) 9 i hi
  rw [if_pos hki] at this
  refine mg_z (f1 i hki hi).1 (by decide) ?_
  rw [u2]
  omega
/-- the right column -/
theorem b_step {k i K : Nat} (hk : k < 9) (h : inM k M) (hb : ∀ i, i < 9 → mg (b i) K) (hK1 : 1026 ≤ K) (hK : K ≤ 2000) (hki : k < i) (hi : i < 9) : msOK (b i) (mlt M k i) (b k) ∧ mg (ms (b i) (mlt M k i) (b k)) (K + 4) := by
  have m1 := mg_mul (mlt_mg hk h hki hi) (hb k hk) (by omega) (by omega)
  have m2 : mg (FP.dmul (mlt M k i) (b k)) (K + 2) := mg_mono m1 (by omega)
  have m3 := mg_sub (mg_mono (hb i hi) (by omega : K ≤ K + 2)) m2 (by omega)
  exact ⟨⟨n64_of (mg_fin m2 (by omega)), n64_of (mg_fin m3 (by omega))⟩, m3⟩
theorem b_all (h : inM 0 M) (hb : ∀ i, i < 9 → mg (b i) 1026) : ∀ k, k ≤ 9 → ∀ i, i < 9 → mg (seqB M b k i) (1026 + 4 * k)
  | 0, _, i, hi => hb i hi
  | k + 1, hk, i, hi => by
    have ih := b_all h hb k (by omega)
    unfold seqB elB
    by_cases z : k < i
    · rw [if_pos z]
      exact (b_step (by omega) (seq_in h k (by omega)) ih (by omega) (by omega) z hi).2
    · rw [if_neg z]
      exact mg_mono (ih i hi) (by omega)
theorem okE_all (h : inM 0 M) (hb : ∀ i, i < 9 → mg (b i) 1026) : ∀ k i, k < i → i < 9 → okE (seqM M k) (seqB M b k) k i := fun k i hki hi => by
  have hk : k < 9 := by omega
  have s := seq_in h k (by omega)
  exact ⟨((fac_ok hk s).1 i hki hi).2, fun j _ hj => (new_ok hk s hj i hki hi).2.1, (b_step hk s (b_all h hb k (by omega)) (by omega) (by omega) hki hi).1⟩
/-- a row solved -/
theorem bs_go (h : inM 9 M) {i K X : Nat} (hi : i < 9) (hb : mg (b i) K) (hx : ∀ j, i < j → j < 9 → mg (x j) X) (hKX : K ≤ X + 4) (hX1 : 1026 ≤ X) (hX : X ≤ 1900) : ∀ j, j ≤ 9 → mg (bsM M b x i j) (X + 4 + 2 * j) ∧ ∀ q, i < q → q < j → msOK (bsM M b x i q) (M i q) (x q)
  | 0, _ => ⟨mg_mono hb hKX, fun q _ hq => absurd hq (Nat.not_lt_zero _)⟩
  | j + 1, hj => by
    obtain ⟨i1, i2⟩ := bs_go h hi hb hx hKX hX1 hX j (by omega)
    have e : bsM M b x i (j + 1) = if j ≤ i then bsM M b x i j else ms (bsM M b x i j) (M i j) (x j) := rfl
    by_cases z : j ≤ i
    · rw [e, if_pos z]
      exact ⟨mg_mono i1 (by omega), fun q q1 q2 => by omega⟩
    · rw [e, if_neg z]
      have m1 := mg_mul (ent_mg h hi (by omega : j < 9)) (hx j (by omega) (by omega)) (by omega) (by omega)
      have m2 : mg (FP.dmul (M i j) (x j)) (X + 4 + 2 * j) := mg_mono m1 (by omega)
      have m3 := mg_sub i1 m2 (by omega)
      refine ⟨mg_mono m3 (by omega), fun q q1 q2 => ?_⟩
      by_cases y : q = j
      · rw [y]
        exact ⟨n64_of (mg_fin m2 (by omega)), n64_of (mg_fin m3 (by omega))⟩
      · exact i2 q q1 (by omega)
theorem row_ok (h : inM 9 M) {i K X : Nat} (hi : i < 9) (hb : mg (b i) K) (hx : ∀ j, i < j → j < 9 → mg (x j) X) (hKX : K ≤ X + 4) (hX1 : 1026 ≤ X) (hX : X ≤ 1900) : okS M b x i ∧ mg (FP.ddiv (bsM M b x i 9) (M i i)) (X + 30) := by
  obtain ⟨i1, i2⟩ := bs_go h hi hb hx hKX hX1 hX 9 (Nat.le_refl _)
  obtain ⟨a1, -⟩ := h.1 i i hi hi
  have d0 := h.2.1 i hi
  have gp := gD_pos
  have lo := lo_z a1 (K := 1018) (by decide) (by rw [g35]; omega)
  have e1 := ent_mg h hi hi
  have dv : mg (FP.ddiv (bsM M b x i 9) (M i i)) (X + 4 + 2 * 9 + (1074 - 52 - 1) - 1018 + 3) := FP.Core.ddiv_mag i1 lo (by unfold mg at e1; omega) (by omega) (by decide)
  have dv2 := mg_mono dv (by omega : X + 4 + 2 * 9 + (1074 - 52 - 1) - 1018 + 3 ≤ X + 30)
  exact ⟨⟨fun j q1 q2 => i2 j q1 q2, cmp_ne a1 (by omega), n64_of (mg_fin dv2 (by omega))⟩, dv2⟩
theorem okS_all (h : inM 9 M) (hb : ∀ i, i < 9 → mg (b i) 1062) : ∀ t, t ≤ 9 → (∀ j, 8 - t < j → j < 9 → mg (xS M b x t j) (1100 + 30 * t)) ∧ (t < 9 → okS M b (xS M b x t) (8 - t))
  | 0, _ => ⟨fun j q1 q2 => by omega, fun _ => (row_ok h (i := 8) (X := 1100) (by omega) (hb 8 (by omega)) (fun j q1 q2 => by omega) (by omega) (by omega) (by omega)).1⟩
  | t + 1, ht => by
    obtain ⟨i1, i2⟩ := okS_all h hb t (by omega)
    obtain ⟨r1, r2⟩ := row_ok h (i := 8 - t) (x := xS M b x t) (X := 1100 + 30 * t) (by omega) (hb _ (by omega)) i1 (by omega) (by omega) (by omega)
    have g1 : ∀ j, 8 - (t + 1) < j → j < 9 → mg (xS M b x (t + 1) j) (1100 + 30 * (t + 1)) := fun j q1 q2 => by
      have e : xS M b x (t + 1) j = if j = 8 - t then FP.ddiv (bsM M b (xS M b x t) (8 - t) 9) (M (8 - t) (8 - t)) else xS M b x t j := rfl
      rw [e]
      by_cases z : j = 8 - t
      · rw [if_pos z]
        exact mg_mono r2 (by omega)
      · rw [if_neg z]
        exact mg_mono (i1 j (by omega) q2) (by omega)
    exact ⟨g1, fun hlt => (row_ok h (i := 8 - (t + 1)) (X := 1100 + 30 * (t + 1)) (by omega) (hb _ (by omega)) g1 (by omega) (by omega) (by omega)).1⟩
end Share
theorem dm0 : ∀ k, k < 91 → 50 ≤ k → FP.dmul (dmF (Int32.ofNat k)) FP.dconst0 = FP.dconst0 := by decide +kernel
theorem z_div : ∀ k, k < 892 → 1 ≤ k → FP.ddiv FP.dconst0 (FP.i2d (Int32.ofNat k)) = FP.dconst0 := by decide +kernel
theorem i32_of {d : Int32} {n : Nat} (h : d.toInt = n) (hn : n < 2 ^ 31) : d = Int32.ofNat n := by
  apply Int32.toInt_inj.mp
  rw [h]
  exact (nI_toInt hn).symm
theorem rt_ok {r : Nat} {d : Int32} (h1 : 50 ≤ d.toInt) (h2 : d.toInt ≤ 90) : vf_n64 (dmF d) ∧ vf_n64 (FP.dsub FP.dconst1 (dmF d)) ∧ ∀ i, mg (rtF r (dmF d) i) 1026 := by
  have up := uD_pos
  have hug := ug
  obtain ⟨m1, m2⟩ := dm_z h1 h2
  obtain ⟨o1, o2⟩ := z_one
  obtain ⟨s1, s2⟩ := dsub_z o1 m1 (by rw [o2]; omega)
  refine ⟨n64_of m1, n64_of s1, fun i => ?_⟩
  unfold rtF
  by_cases q : i = r
  · rw [if_pos q]
    refine mg_z s1 (by decide) ?_
    rw [u8]
    rw [o2] at s2
    omega
  · rw [if_neg q]
    refine mg_z z_zero.1 (by decide) ?_
    rw [z_zero.2, u8]
    show 0 < _
    omega
section Same2
variable {I0 I1 I2 : SI} {X X' : SX} {r : Nat} {d : Int32}
/-- what the reference takes is what the class takes -/
theorem pt_eq (hF : NetFull I0 I1) (hW : W99 I0) (hR : RelN I0 I2) (hr : r < 4) (h1 : 50 ≤ d.toInt) (h2 : d.toInt ≤ 90) {i j : Nat} (hi : i < 9) (hj : j < 9) : ptM I2 r (dmF d) i j = FP.dmul (dmF d) (psF I1 r j i) ∧ (¬ fromM I2 r j i = 0 → FP.ddiv (FP.i2d (fromM I2 r j i)) (FP.i2d (suM I2 j)) = psF I1 r j i) := by
  obtain ⟨g1, -, -, g4⟩ := hF j hj
  have dz : FP.dmul (dmF d) FP.dconst0 = FP.dconst0 := by
    have e : d = Int32.ofNat d.toInt.toNat := i32_of (by omega) (by omega)
    rw [e]
    exact dm0 _ (by omega) (by omega)
  by_cases c0 : cN I0 j 9 = 0
  · obtain ⟨e1, e2⟩ := from_z hR hW (v := r) hj c0
    have s0 : I1 29 j = 0 := by rw [g4]; exact (s9_ne hW hj).mpr c0
    have ep : psF I1 r j i = if i = r then FP.dconst1 else FP.dconst0 := by unfold psF; rw [if_pos s0]
    have one : FP.ddiv (FP.i2d 1) (FP.i2d 1) = FP.dconst1 := by
      rw [i2d_1]
      exact FP.Core.ddiv_one (a := FP.Core.dconst1) (by rw [FP.Core.val64_dconst1]; exact FP.Core.Datum.noConfusion)
    by_cases q : i = r
    · have ef : fromM I2 r j i = 1 := by rw [e1]; exact if_pos q
      unfold ptM
      rw [ef, e2, ep, if_pos q, if_neg (by decide), one]
      exact ⟨rfl, fun _ => rfl⟩
    · have ef : fromM I2 r j i = 0 := by rw [e1]; exact if_neg q
      unfold ptM
      rw [ef, ep, if_neg q, if_pos rfl, dz]
      exact ⟨rfl, fun z => absurd rfl z⟩
  · obtain ⟨e1, e2⟩ := from_w hR hW (v := r) hj c0
    have s0 : ¬ I1 29 j = 0 := by rw [g4]; exact fun z => c0 ((s9_ne hW hj).mp z)
    have ep : psF I1 r j i = FP.ddiv (FP.i2d (wM I0 j i)) (FP.i2d (sM I0 j 9)) := by unfold psF; rw [if_neg s0, g1 i hi, g4]
    unfold ptM
    rw [e1 i hi, e2, ep]
    by_cases q : wM I0 j i = 0
    · rw [if_pos q, q, i2d_0]
      have spos := i32_pos.mp ((s9_pos hW hj).mpr (by omega))
      obtain ⟨-, sle, -, -⟩ := sM_bd hW hj 9 (Nat.le_refl _)
      have es : sM I0 j 9 = Int32.ofNat (sM I0 j 9).toInt.toNat := i32_of (by omega) (by omega)
      rw [es, z_div _ (by omega) (by omega), dz]
      exact ⟨rfl, fun z => absurd rfl z⟩
    · rw [if_neg q]
      exact ⟨rfl, fun _ => rfl⟩
/-- shares: both sides go through, and answer one number -/
theorem share_same (hF : NetFull I0 I1) (hW : W99 I0) (hR : RelN I0 I2) (hr : r < 4) (h1 : 50 ≤ d.toInt) (h2 : d.toInt ≤ 90) (hx : ∀ i, i < 9 → X 99 i = X' 110 i) :
    FlOK I1 r d ∧ SoOK (flO I1 r (dmF d) X 9) ∧ MfOK I2 r d ∧ MoOK (mfO I2 r (dmF d) X' 9) ∧ (∀ i, i < 9 → (soR (soK (flO I1 r (dmF d) X 9) 9) 9) 99 i = (moR (moK (mfO I2 r (dmF d) X' 9) 9) 9) 110 i) ∧ oC X (soR (soK (flO I1 r (dmF d) X 9) 9) 9) ∧ oR X' (moR (moK (mfO I2 r (dmF d) X' 9) 9) 9) := by
  obtain ⟨f1, f2⟩ := fill_ok hF hW hr h1 h2
  obtain ⟨t1, t2, t3⟩ := rt_ok (r := r) h1 h2
  obtain ⟨c1, c2, c3, c4⟩ := flO_eq (X := X) (I := I1) (r := r) (dm := dmF d) 9 (Nat.le_refl _)
  obtain ⟨d1, d2, d3, d4⟩ := mfO_eq (X := X') (I := I2) (r := r) (dm := dmF d) 9 (Nat.le_refl _)
  have hC : RC (flO I1 r (dmF d) X 9) (flM I1 r (dmF d)) (rtF r (dmF d)) (X 99) := ⟨fun i j hi hj => c1 i j hi hj, c2, fun i hi => by rw [c3]⟩
  have hM : RR (mfO I2 r (dmF d) X' 9) (flM I1 r (dmF d)) (rtF r (dmF d)) (X 99) := ⟨fun i j hi hj => by
    rw [d1 i j hi hj]
    unfold mfM flM ms
    rw [(pt_eq hF hW hR hr h1 h2 hi hj).1], d2, fun i hi => by rw [d3]; exact (hx i hi).symm⟩
  have oE := okE_all f2 (b := rtF r (dmF d)) (fun i _ => t3 i)
  have oS : ∀ t, t < 9 → okS (seqM (flM I1 r (dmF d)) 9) (seqB (flM I1 r (dmF d)) (rtF r (dmF d)) 9) (xS (seqM (flM I1 r (dmF d)) 9) (seqB (flM I1 r (dmF d)) (rtF r (dmF d)) 9) (X 99) t) (8 - t) := fun t ht => (okS_all (seq_in f2 9 (Nat.le_refl _)) (fun i hi => b_all f2 (b := rtF r (dmF d)) (fun i _ => t3 i) 9 (Nat.le_refl _) i hi) t (by omega)).2 ht
  obtain ⟨k1, k2⟩ := soK_eq hC 9 (Nat.le_refl _)
  obtain ⟨k3, k4⟩ := soR_eq k1 9 (Nat.le_refl _)
  obtain ⟨l1, l2⟩ := moK_eq hM 9 (Nat.le_refl _)
  obtain ⟨l3, l4⟩ := moR_eq l1 9 (Nat.le_refl _)
  refine ⟨⟨t1, fun n o hn ho z => ((ps_z hF hW hn hr).1 o ho).2 z, fun i j hi hj => f1 i j hi hj, t2⟩, SoOK_of hC oE oS, ⟨t1, fun i j hi hj => ?_, t2⟩, MoOK_of hM oE oS, fun i hi => ?_, (c4.tr k2).tr k4, (d4.tr l2).tr l4⟩
  · obtain ⟨e1, e2⟩ := pt_eq hF hW hR hr h1 h2 hi hj
    obtain ⟨o1, o2⟩ := f1 i j hi hj
    refine ⟨fun z => ?_, ?_⟩
    · rw [e2 z]
      exact ⟨n64_of ((ps_z hF hW hj hr).1 i hi).1, o1⟩
    · rw [e1]
      exact o2
  · rw [k3.2.2 i hi, l3.2.2 i hi]
end Same2
