/-! doubles: what an operation answers, in units of the least number -/
theorem pw2 {a b c : Nat} (h : a + b = c) : 2 ^ c = 2 ^ a * 2 ^ b := by rw [← h, Nat.pow_add]
/-- 1, in units of the least number -/
noncomputable def uD : Nat := Classical.choose (⟨2 ^ 1074, rfl⟩ : ∃ x : Nat, x = 2 ^ 1074)
theorem uD_eq : uD = 2 ^ 1074 := Classical.choose_spec (⟨2 ^ 1074, rfl⟩ : ∃ x : Nat, x = 2 ^ 1074)
/-- 2 to the -40th -/
noncomputable def gD : Nat := Classical.choose (⟨2 ^ 1034, rfl⟩ : ∃ x : Nat, x = 2 ^ 1034)
theorem gD_eq : gD = 2 ^ 1034 := Classical.choose_spec (⟨2 ^ 1034, rfl⟩ : ∃ x : Nat, x = 2 ^ 1034)
theorem ug : uD = 1099511627776 * gD := by
  rw [uD_eq, gD_eq, pw2 (show 40 + 1034 = 1074 from rfl)]
theorem uD_pos : 0 < uD := by rw [uD_eq]; exact Nat.two_pow_pos _
theorem gD_pos : 0 < gD := by rw [gD_eq]; exact Nat.two_pow_pos _
theorem uu : 2 ^ 2148 = uD * uD := by rw [uD_eq]; exact pw2 rfl
theorem gu : 2 ^ 2108 = gD * uD := by rw [uD_eq, gD_eq]; exact pw2 rfl
/-- a double as a whole number of least ones -/
def zD (a : UInt64) : Int := FP.Core.zval FP.Core.b64 (FP.Core.val64 a)
abbrev fD (a : UInt64) : Prop := FP.Core.DFin a
theorem in_40 (k : Nat) : FP.Core.inUnits k (-40) (-2148) = k * (gD * uD) := by
  rw [← gu]
  unfold FP.Core.inUnits
  rw [show ((-40 : Int) - -2148).toNat = 2108 from rfl]
theorem rr_inf {s : Bool} {A B : Nat} {e : Int} (hB : 0 < B) (h0e : -2148 ≤ e) (h : FP.Core.roundRatio FP.Core.b64 s A B e = .inf s) : 8192 * (uD * uD * B) ≤ FP.Core.inUnits A e (-2148) := by
  have hq : FP.Core.b64.qmin = -1074 := FP.Core.qmin_b64
  have n := (FP.Core.roundRatio_inf FP.Core.good_b64 (s := s) (A := A) (B := B) (e := e) (e0 := -2148) hB (by rw [hq]; decide) h0e).mp h
  rw [show FP.Core.b64.p = 53 from rfl, show FP.Core.b64.qmax = 971 from by decide, show ((971 : Int) - 1 - -2148).toNat = 3118 from rfl, pw2 (show 970 + 2148 = 3118 from rfl), uu] at n
  refine Nat.le_trans ?_ n
  rw [← Nat.mul_assoc]
  refine Nat.mul_le_mul_right _ ?_
  have h1 : 1 * (uD * uD) ≤ 2 ^ 970 * (uD * uD) := Nat.mul_le_mul_right _ (Nat.two_pow_pos _)
  rw [Nat.one_mul] at h1
  exact Nat.mul_le_mul (by decide) h1
theorem rr_near {s : Bool} {A B : Nat} {e : Int} (hB : 0 < B) (h0e : -2148 ≤ e) (hx : FP.Core.inUnits A e (-2148) < 8192 * (uD * uD * B)) :
    ∃ c q, FP.Core.roundRatio FP.Core.b64 s A B e = .fin s c q ∧ -1074 ≤ q ∧ ((FP.Core.inUnits A e (-2148) : Int) - (FP.Core.inUnits c q (-2148) : Int) * (B : Int)).natAbs ≤ gD * uD * B := by
  have hq : FP.Core.b64.qmin = -1074 := FP.Core.qmin_b64
  have hfit := FP.Core.roundRatio_fits FP.Core.good_b64 s A hB e
  rcases FP.Core.roundRatio_cases FP.Core.b64 s A B e with ⟨c, q, h⟩ | h
  · refine ⟨c, q, h, ?_, ?_⟩
    · rw [h] at hfit
      have := hfit.2.1
      rw [hq] at this
      exact this
    · have hgB : 0 < gD * uD * B := Nat.mul_pos (Nat.mul_pos gD_pos uD_pos) hB
      have hc : FP.Core.inUnits A e (-2148) / (gD * uD * B) < 2 ^ 53 := by
        rw [Nat.div_lt_iff_lt_mul hgB]
        have e1 : 2 ^ 53 * (gD * uD * B) = 8192 * (uD * uD * B) := by
          have e2 : uD * uD * B = 1099511627776 * (gD * uD * B) := by
            have q : uD * (uD * B) = 1099511627776 * gD * (uD * B) := congrArg (fun z => z * (uD * B)) ug
            rw [Nat.mul_assoc uD, q, Nat.mul_assoc, Nat.mul_assoc gD]
          rw [e2]
          generalize gD * uD * B = w
          omega
        rw [e1]
        exact hx
      have n := FP.Core.roundRatio_nearest FP.Core.good_b64 (c' := FP.Core.inUnits A e (-2148) / (gD * uD * B)) (q' := -40) (e0 := -2148) hB h hc (by rw [hq]; decide) (by rw [hq]; decide) h0e
      unfold FP.Core.distance at n
      refine Nat.le_trans n ?_
      rw [in_40]
      have dm := Nat.div_add_mod (FP.Core.inUnits A e (-2148)) (gD * uD * B)
      have ml := Nat.mod_lt (FP.Core.inUnits A e (-2148)) hgB
      generalize FP.Core.inUnits A e (-2148) = x at *
      generalize x / (gD * uD * B) = k at *
      generalize x % (gD * uD * B) = y at *
      have e3 : ((k * (gD * uD) : Nat) : Int) * (B : Int) = ((gD * uD * B * k : Nat) : Int) := by
        rw [← Int.natCast_mul, Nat.mul_assoc, Nat.mul_comm k]
      rw [e3, ← dm]
      generalize gD * uD * B * k = z at *
      generalize gD * uD * B = w at *
      omega
  · exfalso
    have := rr_inf hB h0e h
    omega
theorem un_mv {c : Nat} {q : Int} (h : -1074 ≤ q) : FP.Core.inUnits c q (-2148) = FP.Core.inUnits c q (-1074) * uD := by
  have := FP.Core.inUnits_move c (q := q) (r := -1074) (e := -2148) (by decide) h
  rw [show ((-1074 : Int) - -2148).toNat = 1074 from rfl, ← uD_eq] at this
  exact this
theorem zD_fin {a : UInt64} {s : Bool} {c : Nat} {q : Int} (h : FP.Core.val64 a = .fin s c q) : zD a = FP.Core.signed s (FP.Core.inUnits c q (-1074)) ∧ -1074 ≤ q := by
  have hq : FP.Core.b64.qmin = -1074 := FP.Core.qmin_b64
  have hf := FP.Core.val64_fits a
  rw [h] at hf
  refine ⟨?_, by have := hf.2.1; rw [hq] at this; exact this⟩
  unfold zD
  rw [h]
  unfold FP.Core.zval FP.Core.zmag FP.Core.sgn
  rw [hq]
theorem sg_abs (s : Bool) (c : Nat) : (FP.Core.signed s c).natAbs = c := by
  cases s
  · show ((c : Int)).natAbs = c
    exact Int.natAbs_natCast c
  · show (-(c : Int)).natAbs = c
    rw [Int.natAbs_neg, Int.natAbs_natCast]
theorem sg_dist (s : Bool) (x y : Nat) : (FP.Core.signed s x - FP.Core.signed s y).natAbs = ((x : Int) - (y : Int)).natAbs := by
  cases s
  · rfl
  · show (-(x : Int) - -(y : Int)).natAbs = _
    omega
theorem dsub_z {a b : UInt64} (ha : fD a) (hb : fD b) (h : (zD a - zD b).natAbs < 8192 * uD) : fD (FP.dsub a b) ∧ (zD (FP.dsub a b) - (zD a - zD b)).natAbs ≤ gD := by
  have hq : FP.Core.b64.qmin = -1074 := FP.Core.qmin_b64
  obtain ⟨s, c, q, e1⟩ := ha
  obtain ⟨t, d, r, e2⟩ := hb
  have hfa := FP.Core.val64_fits a
  have hfb := FP.Core.negate_fits (FP.Core.val64_fits b)
  have hneg : FP.Core.negate (FP.Core.val64 b) = .fin (!t) d r := by rw [e2]; rfl
  rw [hneg] at hfb
  rw [e1] at hfa
  obtain ⟨sg, n, e, x1, x2, x3⟩ := FP.Core.sum_units hfa hfb
  rw [hq] at x2 x3
  have z3 : FP.Core.signed sg (FP.Core.inUnits n e (-1074)) = zD a - zD b := by
    rw [x3]
    have z1 : zD a = FP.Core.zval FP.Core.b64 (.fin s c q) := by unfold zD; rw [e1]
    have z2 : FP.Core.zval FP.Core.b64 (.fin (!t) d r) = - zD b := by
      rw [← hneg, FP.Core.zval_negate]
      rfl
    rw [z1, z2]
    omega
  rw [← z3] at h ⊢
  rw [sg_abs] at h
  have hv : FP.Core.val64 (FP.dsub a b) = FP.Core.roundRatio FP.Core.b64 sg n 1 e := by
    have := FP.Core.val64_dsub a b
    rw [e1, hneg, x1] at this
    exact this
  have hlt : FP.Core.inUnits n e (-2148) < 8192 * (uD * uD * 1) := by
    rw [un_mv x2, Nat.mul_one, ← Nat.mul_assoc]
    exact Nat.mul_lt_mul_of_pos_right h uD_pos
  obtain ⟨c', q', y1, y2, y3⟩ := rr_near (s := sg) (by decide) (by omega) hlt
  rw [y1] at hv
  refine ⟨⟨_, _, _, hv⟩, ?_⟩
  rw [(zD_fin hv).1, sg_dist]
  rw [un_mv x2, un_mv y2, Nat.mul_one] at y3
  have e5 : ((FP.Core.inUnits n e (-1074) * uD : Nat) : Int) - ((FP.Core.inUnits c' q' (-1074) * uD : Nat) : Int) * ((1 : Nat) : Int) = ((FP.Core.inUnits n e (-1074) : Int) - (FP.Core.inUnits c' q' (-1074) : Int)) * (uD : Int) := by
    rw [Int.natCast_mul, Int.natCast_mul, Int.natCast_one, Int.mul_one, Int.sub_mul]
  rw [e5, Int.natAbs_mul, Int.natAbs_natCast] at y3
  have := Nat.le_of_mul_le_mul_right y3 uD_pos
  omega
theorem dmul_z {a b : UInt64} (ha : fD a) (hb : fD b) (h : (zD a * zD b).natAbs < 8192 * uD * uD) : fD (FP.dmul a b) ∧ (zD (FP.dmul a b) * (uD : Int) - zD a * zD b).natAbs ≤ gD * uD := by
  have hq : FP.Core.b64.qmin = -1074 := FP.Core.qmin_b64
  obtain ⟨s, c, q, e1⟩ := ha
  obtain ⟨t, d, r, e2⟩ := hb
  have hfa := FP.Core.val64_fits a
  have hfb := FP.Core.val64_fits b
  rw [e1] at hfa
  rw [e2] at hfb
  obtain ⟨x1, x2, x3⟩ := FP.Core.product_units hfa hfb
  rw [hq] at x2 x3
  have z1 := zD_fin e1
  have z2 := zD_fin e2
  have x3 : FP.Core.inUnits (c * d) (q + r) (-2148) = FP.Core.inUnits c q (-1074) * FP.Core.inUnits d r (-1074) := by
    have : FP.Core.inUnits (c * d) (q + r) (-2148) = FP.Core.zmag FP.Core.b64 (.fin s c q) * FP.Core.zmag FP.Core.b64 (.fin t d r) := x3
    rw [this]
    unfold FP.Core.zmag
    rw [hq]
  have z3 : zD a * zD b = FP.Core.signed (s != t) (FP.Core.inUnits (c * d) (q + r) (-2148)) := by
    rw [x3, FP.Core.signed_xor, z1.1, z2.1]
  rw [z3] at h ⊢
  rw [sg_abs] at h
  have hv : FP.Core.val64 (FP.dmul a b) = FP.Core.roundRatio FP.Core.b64 (s != t) (c * d) 1 (q + r) := by
    have := FP.Core.val64_dmul a b
    rw [e1, e2, x1] at this
    exact this
  have hlt : FP.Core.inUnits (c * d) (q + r) (-2148) < 8192 * (uD * uD * 1) := by
    rw [Nat.mul_one, ← Nat.mul_assoc]
    exact h
  obtain ⟨c', q', y1, y2, y3⟩ := rr_near (s := (s != t)) (by decide) (by omega) hlt
  rw [y1] at hv
  refine ⟨⟨_, _, _, hv⟩, ?_⟩
  rw [(zD_fin hv).1, ← FP.Core.signed_mul, ← un_mv y2, sg_dist]
  rw [Nat.mul_one, Int.natCast_one, Int.mul_one] at y3
  omega
theorem zD_0 {a : UInt64} {s : Bool} {c : Nat} {q : Int} (h : FP.Core.val64 a = .fin s c q) : c = 0 → zD a = 0 := fun e => by
  rw [(zD_fin h).1, e]
  unfold FP.Core.inUnits
  rw [Nat.zero_mul, FP.Core.signed_zero]
theorem ddiv_z {a b : UInt64} (ha : fD a) (hb : fD b) (h0 : zD b ≠ 0) (h : (zD a).natAbs * uD < 8192 * uD * (zD b).natAbs) : fD (FP.ddiv a b) ∧ (zD (FP.ddiv a b) * zD b - zD a * (uD : Int)).natAbs ≤ gD * (zD b).natAbs := by
  have hq : FP.Core.b64.qmin = -1074 := FP.Core.qmin_b64
  obtain ⟨s, c, q, e1⟩ := ha
  obtain ⟨t, d, r, e2⟩ := hb
  obtain ⟨z1, l1⟩ := zD_fin e1
  obtain ⟨z2, l2⟩ := zD_fin e2
  have hd : d ≠ 0 := fun z => h0 (zD_0 e2 z)
  have hr2 : r ≤ 971 := by
    have hf := FP.Core.val64_fits b
    rw [e2] at hf
    exact hf.2.2.1
  have hv : FP.Core.val64 (FP.ddiv a b) = FP.Core.roundRatio FP.Core.b64 (s != t) c d (q - r) := by
    have := FP.Core.val64_ddiv a b
    rw [e1, e2] at this
    unfold FP.Core.quotient at this
    dsimp only at this
    rw [if_neg hd] at this
    exact this
  have ab : (zD b).natAbs = FP.Core.inUnits d r (-1074) := by rw [z2, sg_abs]
  have aa : (zD a).natAbs = FP.Core.inUnits c q (-1074) := by rw [z1, sg_abs]
  -- everything times 2 to the r + 1074
  obtain ⟨w, hw⟩ : ∃ w, w = 2 ^ (r + 1074).toNat := ⟨_, rfl⟩
  have wpos : 0 < w := by rw [hw]; exact Nat.two_pow_pos _
  have eb : FP.Core.inUnits d r (-1074) = d * w := by
    rw [hw]
    unfold FP.Core.inUnits
    rw [show r - -1074 = r + 1074 from by omega]
  have ea : FP.Core.inUnits c (q - r) (-2148) * w = FP.Core.inUnits c q (-1074) * uD * uD := by
    rw [hw, uD_eq]
    unfold FP.Core.inUnits
    have hexp : (q - r - -2148).toNat + (r + 1074).toNat = (q - -1074).toNat + 1074 + 1074 := by omega
    rw [Nat.mul_assoc, Nat.mul_assoc, Nat.mul_assoc, ← Nat.pow_add, ← Nat.mul_assoc (2 ^ (q - -1074).toNat), ← Nat.pow_add, ← Nat.pow_add, hexp]
  have hlt : FP.Core.inUnits c (q - r) (-2148) < 8192 * (uD * uD * d) := by
    refine Nat.lt_of_mul_lt_mul_right (a := w) ?_
    rw [ea]
    rw [aa, ab, eb] at h
    have e6 : 8192 * (uD * uD * d) * w = 8192 * uD * (d * w) * uD := by ac_rfl
    rw [e6]
    exact Nat.mul_lt_mul_of_pos_right h uD_pos
  obtain ⟨c', q', y1, y2, y3⟩ := rr_near (s := (s != t)) (e := q - r) (Nat.pos_of_ne_zero hd) (by omega) hlt
  rw [y1] at hv
  refine ⟨⟨_, _, _, hv⟩, ?_⟩
  have e7 : zD (FP.ddiv a b) * zD b = FP.Core.signed s (FP.Core.inUnits c' q' (-1074) * FP.Core.inUnits d r (-1074)) := by
    rw [(zD_fin hv).1, z2, ← FP.Core.signed_xor]
    congr 1
    cases s <;> cases t <;> rfl
  have e8 : zD a * (uD : Int) = FP.Core.signed s (FP.Core.inUnits c q (-1074) * uD) := by
    rw [z1, FP.Core.signed_mul]
  rw [e7, e8, sg_dist, ab]
  rw [un_mv y2] at y3
  have y4 := Nat.mul_le_mul_right w y3
  rw [← Int.natAbs_natCast w, ← Int.natAbs_mul, Int.sub_mul, ← Int.natCast_mul, Int.natAbs_natCast, ea] at y4
  have e9 : ((FP.Core.inUnits c' q' (-1074) * uD : Nat) : Int) * (d : Int) * (w : Int) = ((FP.Core.inUnits c' q' (-1074) * FP.Core.inUnits d r (-1074) : Nat) : Int) * (uD : Int) := by
    rw [eb, ← Int.natCast_mul, ← Int.natCast_mul, ← Int.natCast_mul]
    congr 1
    ac_rfl
  have e10 : ((FP.Core.inUnits c q (-1074) * uD * uD : Nat) : Int) = ((FP.Core.inUnits c q (-1074) * uD : Nat) : Int) * (uD : Int) := Int.natCast_mul _ _
  rw [e9, e10, ← Int.sub_mul, Int.natAbs_mul, Int.natAbs_natCast] at y4
  have e11 : gD * uD * d * w = gD * FP.Core.inUnits d r (-1074) * uD := by
    rw [eb]
    ac_rfl
  rw [e11] at y4
  have := Nat.le_of_mul_le_mul_right y4 uD_pos
  omega
