/-! doubles: a mean toll's bits -/
theorem fp_qmin : FP.Core.b64.qmin = -1074 := by decide
theorem fp_qmax : FP.Core.b64.qmax = 971 := by decide
theorem fp_fit {c : Nat} {q : Int} (h1 : 4503599627370496 ≤ c) (h2 : c < 9007199254740992) (h3 : -1074 ≤ q) (h4 : q ≤ 971) : FP.Core.fits FP.Core.b64 (.fin false c q) :=
  ⟨h2, by rw [fp_qmin]; exact h3, by rw [fp_qmax]; exact h4, Or.inr h1⟩
theorem fp_two : FP.Core.val64 4611686018427387904 = .fin false 4503599627370496 (-51) := by decide +kernel
theorem fp_one : FP.Core.val64 FP.dconst1 = .fin false 4503599627370496 (-52) := by decide +kernel
theorem fp_p52 : FP.Core.val64 4841369599423283200 = .fin false 4503599627370496 0 := by decide +kernel
theorem fp_half {x : UInt64} {c : Nat} {q : Int} (hx : FP.Core.val64 x = .fin false c q) (h1 : 4503599627370496 ≤ c) (h2 : c < 9007199254740992) (h3 : -1073 ≤ q) (h4 : q ≤ 971) : FP.Core.val64 (FP.ddiv x 4611686018427387904) = .fin false c (q - 1) := by
  have e : FP.ddiv x 4611686018427387904 = FP.Core.of64 (FP.Core.quotient FP.Core.b64 (FP.Core.val64 x) (FP.Core.val64 4611686018427387904)) := rfl
  rw [e, hx, fp_two]
  have e2 : FP.Core.quotient FP.Core.b64 (.fin false c q) (.fin false 4503599627370496 (-51)) = .fin false c (q - 1) := by
    show (if 4503599627370496 = 0 then (if c = 0 then FP.Core.Datum.nan else FP.Core.Datum.inf (false != false)) else FP.Core.roundRatio FP.Core.b64 (false != false) c 4503599627370496 (q - -51)) = _
    rw [if_neg (by decide)]
    refine FP.Core.roundRatio_exact FP.Core.good_b64 (by decide) (fp_fit h1 h2 (by omega) (by omega)) ?_
    rw [show (q - -51 - (q - 1)).toNat = 52 by omega, show (q - 1 - (q - -51)).toNat = 0 by omega]
    omega
  rw [e2]
  exact FP.Core.val64_of64 (fp_fit h1 h2 (by omega) (by omega))
theorem fp_cmp {x y : UInt64} {c d : Nat} {q r : Int} (hx : FP.Core.val64 x = .fin false c q) (hy : FP.Core.val64 y = .fin false d r) : FP.dcmp x y = some (compare ((FP.Core.inUnits c q (min q r) : Nat) : Int) ((FP.Core.inUnits d r (min q r) : Nat) : Int)) := by
  show FP.Core.order (FP.Core.val64 x) (FP.Core.val64 y) = _
  rw [hx, hy]
  rfl
theorem cmp_lt {a b : Int} (h : a < b) : compare a b = .lt := by
  show compareOfLessAndEq a b = _
  unfold compareOfLessAndEq
  rw [if_pos h]
theorem cmp_ge {a b : Int} (h : b ≤ a) : compare a b ≠ .lt := by
  show compareOfLessAndEq a b ≠ _
  unfold compareOfLessAndEq
  rw [if_neg (by omega)]
  split <;> decide
theorem fp_lt2 {x : UInt64} {c : Nat} (hx : FP.Core.val64 x = .fin false c (-52)) (h2 : c < 9007199254740992) : Op.cmpValue (FP.dcmp x 4611686018427387904) .l < 0 := by
  rw [fp_cmp hx fp_two, cmp_lt (by unfold FP.Core.inUnits; rw [show (-52 - min (-52 : Int) (-51)).toNat = 0 by decide, show (-51 - min (-52 : Int) (-51)).toNat = 1 by decide]; omega)]
  decide
theorem fp_ge2 {x : UInt64} {c : Nat} {q : Int} (hx : FP.Core.val64 x = .fin false c q) (h1 : 4503599627370496 ≤ c) (hq : -51 ≤ q) : ¬ Op.cmpValue (FP.dcmp x 4611686018427387904) .l < 0 := by
  rw [fp_cmp hx fp_two]
  have h := cmp_ge (a := ((FP.Core.inUnits c q (min q (-51)) : Nat) : Int)) (b := ((FP.Core.inUnits 4503599627370496 (-51) (min q (-51)) : Nat) : Int)) (by
    unfold FP.Core.inUnits
    rw [show min q (-51 : Int) = -51 by omega, show (-51 - (-51 : Int)).toNat = 0 by decide]
    have := Nat.le_mul_of_pos_right c (Nat.two_pow_pos (q - -51).toNat)
    omega)
  generalize compare ((FP.Core.inUnits c q (min q (-51)) : Nat) : Int) ((FP.Core.inUnits 4503599627370496 (-51) (min q (-51)) : Nat) : Int) = o at h ⊢
  cases o <;> first | exact absurd rfl h | decide
theorem fp_ge1 {x : UInt64} {c : Nat} {q : Int} (hx : FP.Core.val64 x = .fin false c q) (h1 : 4503599627370496 ≤ c) (hq : -52 ≤ q) : ¬ Op.cmpValue (FP.dcmp x FP.dconst1) .g < 0 := by
  rw [fp_cmp hx fp_one]
  have h := cmp_ge (a := ((FP.Core.inUnits c q (min q (-52)) : Nat) : Int)) (b := ((FP.Core.inUnits 4503599627370496 (-52) (min q (-52)) : Nat) : Int)) (by
    unfold FP.Core.inUnits
    rw [show min q (-52 : Int) = -52 by omega, show (-52 - (-52 : Int)).toNat = 0 by decide]
    have := Nat.le_mul_of_pos_right c (Nat.two_pow_pos (q - -52).toNat)
    omega)
  generalize compare ((FP.Core.inUnits c q (min q (-52)) : Nat) : Int) ((FP.Core.inUnits 4503599627370496 (-52) (min q (-52)) : Nat) : Int) = o at h ⊢
  cases o <;> first | exact absurd rfl h | decide
/-- a small whole number times 2^-52, as the format writes it -/
theorem fp_small {m : Nat} (hm : m < 4503599627370496) : ∃ (c : Nat) (q : Int), FP.Core.roundRatio FP.Core.b64 false m 1 (-52) = .fin false c q ∧ FP.Core.fits FP.Core.b64 (.fin false c q) ∧ FP.Core.fits FP.Core.b64 (FP.Core.roundRatio FP.Core.b64 false (c * 4503599627370496) 1 q) ∧ FP.Core.toL (FP.Core.roundRatio FP.Core.b64 false (c * 4503599627370496) 1 q) = Int64.ofInt m := by
  by_cases h0 : m = 0
  · subst h0
    refine ⟨0, -1074, rfl, ⟨by decide, by decide, by decide, Or.inl rfl⟩, ⟨by decide, by decide, by decide, Or.inl rfl⟩, ?_⟩
    have h9 : FP.Core.truncate false 0 (-1074) = 0 := by
      unfold FP.Core.truncate FP.Core.signed
      rw [Nat.zero_mul, Nat.zero_div]
      rfl
    show Int64.ofInt (max (-2 ^ 63) (min (2 ^ 63 - 1) (FP.Core.truncate false 0 (-1074)))) = _
    rw [h9]
    decide
  · have l1 : 2 ^ m.log2 ≤ m := Nat.log2_self_le h0
    have l2 : m < 2 ^ (m.log2 + 1) := Nat.lt_log2_self
    have l3 : m.log2 < 52 := (Nat.log2_lt h0).mpr hm
    generalize m.log2 = k at l1 l2 l3
    have p1 : 2 ^ k * 2 ^ (52 - k) = 4503599627370496 := by rw [← Nat.pow_add, show k + (52 - k) = 52 by omega]
    have p2 : 2 ^ (k + 1) * 2 ^ (52 - k) = 9007199254740992 := by rw [← Nat.pow_add, show k + 1 + (52 - k) = 53 by omega]
    have c1 : 4503599627370496 ≤ m * 2 ^ (52 - k) := by rw [← p1]; exact Nat.mul_le_mul_right _ l1
    have c2 : m * 2 ^ (52 - k) < 9007199254740992 := by rw [← p2]; exact Nat.mul_lt_mul_of_pos_right l2 (Nat.two_pow_pos _)
    have f1 := fp_fit (q := (k : Int) - 104) c1 c2 (by omega) (by omega)
    have f2 := fp_fit (q := (k : Int) - 52) c1 c2 (by omega) (by omega)
    have e1 : FP.Core.roundRatio FP.Core.b64 false m 1 (-52) = .fin false (m * 2 ^ (52 - k)) ((k : Int) - 104) := by
      refine FP.Core.roundRatio_exact FP.Core.good_b64 (by decide) f1 ?_
      rw [show (-52 - ((k : Int) - 104)).toNat = 52 - k by omega, show ((k : Int) - 104 - -52).toNat = 0 by omega]
      omega
    have e2 : FP.Core.roundRatio FP.Core.b64 false (m * 2 ^ (52 - k) * 4503599627370496) 1 ((k : Int) - 104) = .fin false (m * 2 ^ (52 - k)) ((k : Int) - 52) := by
      refine FP.Core.roundRatio_exact FP.Core.good_b64 (by decide) f2 ?_
      rw [show ((k : Int) - 104 - ((k : Int) - 52)).toNat = 0 by omega, show ((k : Int) - 52 - ((k : Int) - 104)).toNat = 52 by omega]
      omega
    refine ⟨_, _, e1, f1, by rw [e2]; exact f2, ?_⟩
    rw [e2]
    show Int64.ofInt (max _ (min _ (((m * 2 ^ (52 - k) * 2 ^ ((k : Int) - 52).toNat / 2 ^ (-((k : Int) - 52)).toNat : Nat)) : Int))) = _
    rw [show ((k : Int) - 52).toNat = 0 by omega, show (-((k : Int) - 52)).toNat = 52 - k by omega, Nat.pow_zero, Nat.mul_one, Nat.mul_div_cancel _ (Nat.two_pow_pos _)]
    congr 1
    omega
theorem fp_tail {x : UInt64} {c : Nat} (hx : FP.Core.val64 x = .fin false c (-52)) (h1 : 4503599627370496 ≤ c) (h2 : c < 9007199254740992) : FP.d2l (FP.dmul (FP.dsub x FP.dconst1) 4841369599423283200) = Int64.ofInt ((c - 4503599627370496 : Nat) : Int) ∧ FP.Core.dIsNaN (FP.dsub x FP.dconst1) = false ∧ FP.Core.dIsNaN (FP.dmul (FP.dsub x FP.dconst1) 4841369599423283200) = false := by
  obtain ⟨c', q', e1, f1, f2, e2⟩ := fp_small (m := c - 4503599627370496) (by omega)
  have s1 : FP.Core.val64 (FP.dsub x FP.dconst1) = .fin false c' q' := by
    have e : FP.dsub x FP.dconst1 = FP.Core.of64 (FP.Core.round FP.Core.b64 (FP.Core.exactSum (FP.Core.val64 x) (FP.Core.negate (FP.Core.val64 FP.dconst1)))) := rfl
    rw [e, hx, fp_one]
    have e3 : FP.Core.exactSum (.fin false c (-52)) (FP.Core.negate (.fin false 4503599627370496 (-52))) = .fin false (c - 4503599627370496) (-52) := by
      have u : FP.Core.sumUnits false c (-52) true 4503599627370496 (-52) (min (-52) (-52)) = ((c - 4503599627370496 : Nat) : Int) := by
        unfold FP.Core.sumUnits FP.Core.signed FP.Core.inUnits
        rw [show (-52 - min (-52 : Int) (-52)).toNat = 0 by decide]
        simp only [Bool.false_eq_true, ↓reduceIte, Nat.pow_zero, Nat.mul_one]
        omega
      show FP.Core.Datum.fin (FP.Core.sumSign false true (FP.Core.sumUnits false c (-52) true 4503599627370496 (-52) (min (-52) (-52)))) (FP.Core.sumUnits false c (-52) true 4503599627370496 (-52) (min (-52) (-52))).natAbs (min (-52) (-52)) = _
      rw [u]
      have v : FP.Core.sumSign false true ((c - 4503599627370496 : Nat) : Int) = false := by
        unfold FP.Core.sumSign
        split
        · rfl
        · exact decide_eq_false (by omega)
      rw [v, Int.natAbs_natCast]
      rfl
    rw [e3]
    show FP.Core.val64 (FP.Core.of64 (FP.Core.roundRatio FP.Core.b64 false (c - 4503599627370496) 1 (-52))) = _
    rw [e1]
    exact FP.Core.val64_of64 f1
  have s2 : FP.Core.val64 (FP.dmul (FP.dsub x FP.dconst1) 4841369599423283200) = FP.Core.roundRatio FP.Core.b64 false (c' * 4503599627370496) 1 q' := by
    have e : FP.dmul (FP.dsub x FP.dconst1) 4841369599423283200 = FP.Core.of64 (FP.Core.round FP.Core.b64 (FP.Core.exactProduct (FP.Core.val64 (FP.dsub x FP.dconst1)) (FP.Core.val64 4841369599423283200))) := rfl
    rw [e, s1, fp_p52]
    show FP.Core.val64 (FP.Core.of64 (FP.Core.roundRatio FP.Core.b64 (false != false) (c' * 4503599627370496) 1 (q' + 0))) = _
    rw [Int.add_zero]
    exact FP.Core.val64_of64 f2
  refine ⟨?_, ?_, ?_⟩
  · show FP.Core.toL (FP.Core.val64 _) = _
    rw [s2, e2]
  · show decide (FP.Core.val64 _ = .nan) = false
    rw [s1]; rfl
  · show decide (FP.Core.val64 _ = .nan) = false
    rw [s2]
    exact decide_eq_false (FP.Core.roundRatio_ne_nan _ _ _ _ _)
theorem fp_bits {x : UInt64} {c e : Nat} (hx : FP.Core.val64 x = .fin false c ((e : Int) - 52)) (h1 : 4503599627370496 ≤ c) (h2 : c < 9007199254740992) (he : e < 60) : x.toNat = (e + 1023) * 4503599627370496 + (c - 4503599627370496) := by
  have h := FP.Core.of64_val64 (a := x) (by rw [hx]; intro q; cases q)
  rw [hx] at h
  have f := fp_fit (q := (e : Int) - 52) h1 h2 (by omega) (by omega)
  rw [← h, FP.Core.toNat_of64 f]
  show (if c < 4503599627370496 then _ else FP.Core.assemble FP.Core.b64 false (((e : Int) - 52 - FP.Core.b64.qmin).toNat + 1) (c - 4503599627370496)) = _
  rw [if_neg (by omega), fp_qmin, show ((e : Int) - 52 - -1074).toNat + 1 = e + 1023 by omega]
  show (0 * FP.Core.b64.exps + (e + 1023)) * 4503599627370496 + (c - 4503599627370496) = _
  omega
theorem fp_pos {n : Nat} (h0 : 0 < n) (hn : n < 2147483648) : ∃ k : Nat, k ≤ 30 ∧ FP.Core.val64 (FP.i2d (nI n)) = .fin false (n * 2 ^ (52 - k)) ((k : Int) - 52) := by
  have l1 : 2 ^ n.log2 ≤ n := Nat.log2_self_le (by omega)
  have l2 : n < 2 ^ (n.log2 + 1) := Nat.lt_log2_self
  have l3 : n.log2 < 31 := (Nat.log2_lt (by omega)).mpr hn
  generalize n.log2 = k at l1 l2 l3
  have p1 : 2 ^ k * 2 ^ (52 - k) = 4503599627370496 := by rw [← Nat.pow_add, show k + (52 - k) = 52 by omega]
  have p2 : 2 ^ (k + 1) * 2 ^ (52 - k) = 9007199254740992 := by rw [← Nat.pow_add, show k + 1 + (52 - k) = 53 by omega]
  have c1 : 4503599627370496 ≤ n * 2 ^ (52 - k) := by rw [← p1]; exact Nat.mul_le_mul_right _ l1
  have c2 : n * 2 ^ (52 - k) < 9007199254740992 := by rw [← p2]; exact Nat.mul_lt_mul_of_pos_right l2 (Nat.two_pow_pos _)
  have f1 := fp_fit (q := (k : Int) - 52) c1 c2 (by omega) (by omega)
  refine ⟨k, by omega, ?_⟩
  have e : FP.i2d (nI n) = FP.Core.of64 (FP.Core.round FP.Core.b64 (FP.Core.ofInt (nI n).toInt)) := rfl
  rw [e, show (nI n).toInt = (n : Int) from by rw [← Int32.toInt_ofNat_of_lt hn]; rfl]
  have e1 : FP.Core.round FP.Core.b64 (FP.Core.ofInt (n : Int)) = .fin false (n * 2 ^ (52 - k)) ((k : Int) - 52) := by
    show FP.Core.roundRatio FP.Core.b64 (decide ((n : Int) < 0)) (n : Int).natAbs 1 0 = _
    rw [decide_eq_false (by omega), Int.natAbs_natCast]
    refine FP.Core.roundRatio_exact FP.Core.good_b64 (by decide) f1 ?_
    rw [show (0 - ((k : Int) - 52)).toNat = 52 - k by omega, show ((k : Int) - 52 - 0).toNat = 0 by omega]
    omega
  rw [e1]
  exact FP.Core.val64_of64 f1
theorem fp_div {x y : Nat} (hy : 0 < y) (hxy : y ≤ x) (hx : x < 2147483648) : ∃ (c e : Nat), e < 40 ∧ 4503599627370496 ≤ c ∧ c < 9007199254740992 ∧ FP.Core.val64 (FP.ddiv (FP.i2d (nI x)) (FP.i2d (nI y))) = .fin false c ((e : Int) - 52) := by
  obtain ⟨k, hk, ex⟩ := fp_pos (n := x) (by omega) hx
  obtain ⟨j, hj, ey⟩ := fp_pos (n := y) hy (by omega)
  have e : FP.ddiv (FP.i2d (nI x)) (FP.i2d (nI y)) = FP.Core.of64 (FP.Core.quotient FP.Core.b64 (FP.Core.val64 (FP.i2d (nI x))) (FP.Core.val64 (FP.i2d (nI y)))) := rfl
  have hyp : 0 < y * 2 ^ (52 - j) := Nat.mul_pos hy (Nat.two_pow_pos _)
  have e1 : FP.Core.quotient FP.Core.b64 (.fin false (x * 2 ^ (52 - k)) ((k : Int) - 52)) (.fin false (y * 2 ^ (52 - j)) ((j : Int) - 52)) = FP.Core.roundRatio FP.Core.b64 false x y 0 := by
    show (if y * 2 ^ (52 - j) = 0 then _ else FP.Core.roundRatio FP.Core.b64 (false != false) (x * 2 ^ (52 - k)) (y * 2 ^ (52 - j)) ((k : Int) - 52 - ((j : Int) - 52))) = _
    rw [if_neg (by omega)]
    refine FP.Core.roundRatio_congr hyp hy ?_
    have a1 : x * 2 ^ (52 - k) * y * 2 ^ ((k : Int) - 52 - ((j : Int) - 52) - 0).toNat = x * y * (2 ^ (52 - k) * 2 ^ ((k : Int) - 52 - ((j : Int) - 52) - 0).toNat) := by ac_rfl
    have a2 : x * (y * 2 ^ (52 - j)) * 2 ^ (0 - ((k : Int) - 52 - ((j : Int) - 52))).toNat = x * y * (2 ^ (52 - j) * 2 ^ (0 - ((k : Int) - 52 - ((j : Int) - 52))).toNat) := by ac_rfl
    rw [a1, a2, ← Nat.pow_add, ← Nat.pow_add, show 52 - k + ((k : Int) - 52 - ((j : Int) - 52) - 0).toNat = 52 - j + (0 - ((k : Int) - 52 - ((j : Int) - 52))).toNat by omega]
  have hb := FP.Core.leading_spec (A := x) (B := y) (by omega) hy
  have hr : ∃ k0 : Nat, k0 < 32 ∧ FP.Core.leading x y = (k0 : Int) ∧ y * 2 ^ k0 ≤ x ∧ x < y * 2 ^ (k0 + 1) := by
    obtain ⟨b1, b2⟩ := hb
    generalize FP.Core.leading x y = L at b1 b2
    unfold FP.Core.Below at b1 b2
    have hl0 : 0 ≤ L := by
      refine Int.not_lt.mp fun hneg => ?_
      rw [show (L + 1).toNat = 0 by omega, Nat.pow_zero, Nat.mul_one] at b2
      have := Nat.le_mul_of_pos_right x (Nat.two_pow_pos (-(L + 1)).toNat)
      omega
    rw [show (-L).toNat = 0 by omega, Nat.pow_zero, Nat.mul_one] at b1
    rw [show (-(L + 1)).toNat = 0 by omega, Nat.pow_zero, Nat.mul_one, show (L + 1).toNat = L.toNat + 1 by omega] at b2
    refine ⟨L.toNat, ?_, by omega, by omega, b2⟩
    refine Nat.not_le.mp fun h32 => ?_
    have h1 : 2 ^ 32 ≤ 2 ^ L.toNat := Nat.pow_le_pow_right (by decide) h32
    have h2 := Nat.mul_le_mul hy h1
    omega
  obtain ⟨k0, hk0, hle, g1, g2⟩ := hr
  have hq : FP.Core.quantum FP.Core.b64 x y 0 = (k0 : Int) - 52 := by
    unfold FP.Core.quantum
    rw [hle, fp_qmin]
    show max (-1074 : Int) ((k0 : Int) + 0 - (53 - 1)) = _
    omega
  have hR : FP.Core.roundRatio FP.Core.b64 false x y 0 = FP.Core.settle FP.Core.b64 false (FP.Core.nearest (x * 2 ^ (52 - k0)) y) ((k0 : Int) - 52) := by
    unfold FP.Core.roundRatio
    rw [if_neg (by omega), hq]
    unfold FP.Core.roundAt FP.Core.unitsNum FP.Core.unitsDen
    rw [show (0 - ((k0 : Int) - 52)).toNat = 52 - k0 by omega, show ((k0 : Int) - 52 - 0).toNat = 0 by omega, Nat.pow_zero, Nat.mul_one]
  have n1 : 4503599627370496 ≤ FP.Core.nearest (x * 2 ^ (52 - k0)) y := FP.Core.nearest_ge hy (by
    have := Nat.mul_le_mul_right (2 ^ (52 - k0)) g1
    rw [Nat.mul_assoc, ← Nat.pow_add, show k0 + (52 - k0) = 52 by omega] at this
    omega)
  have n2 : FP.Core.nearest (x * 2 ^ (52 - k0)) y ≤ 9007199254740992 := FP.Core.nearest_le hy (by
    have := Nat.mul_le_mul_right (2 ^ (52 - k0)) (Nat.le_of_lt g2)
    rw [Nat.mul_assoc, ← Nat.pow_add, show k0 + 1 + (52 - k0) = 53 by omega] at this
    omega)
  rw [e, ex, ey, e1, hR]
  generalize FP.Core.nearest (x * 2 ^ (52 - k0)) y = c at n1 n2
  by_cases hc : c < 9007199254740992
  · refine ⟨c, k0, by omega, n1, hc, ?_⟩
    have : FP.Core.settle FP.Core.b64 false c ((k0 : Int) - 52) = .fin false c ((k0 : Int) - 52) := by
      unfold FP.Core.settle FP.Core.bound
      rw [if_pos (show c < 2 ^ FP.Core.b64.p from hc), if_pos (by rw [fp_qmax]; omega)]
    rw [this]
    exact FP.Core.val64_of64 (fp_fit n1 hc (by omega) (by omega))
  · refine ⟨4503599627370496, k0 + 1, by omega, Nat.le_refl _, by decide, ?_⟩
    have : FP.Core.settle FP.Core.b64 false c ((k0 : Int) - 52) = .fin false 4503599627370496 (((k0 + 1 : Nat) : Int) - 52) := by
      unfold FP.Core.settle FP.Core.bound
      rw [if_neg (show ¬ c < 2 ^ FP.Core.b64.p from hc), if_pos (by rw [fp_qmax]; omega)]
      show FP.Core.Datum.fin false 4503599627370496 ((k0 : Int) - 52 + 1) = _
      rw [show (k0 : Int) - 52 + 1 = ((k0 + 1 : Nat) : Int) - 52 by omega]
    rw [this]
    exact FP.Core.val64_of64 (fp_fit (Nat.le_refl _) (by decide) (by omega) (by omega))
