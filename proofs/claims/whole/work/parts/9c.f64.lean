
/-! UInt64: bits, and the few steps that the class takes -/
theorem f64_c : FP.Core.b64.exps = 2048 ∧ FP.Core.b64.tails = 4503599627370496 ∧ FP.Core.b64.qmin = (-1074) ∧ FP.Core.b64.qmax = 971 ∧ FP.Core.b64.p = 53 := by decide +kernel
theorem f64_nn {x : UInt64} (h : FP.Core.val64 x ≠ .nan) : vf_n64 x := by
  have h1 : ¬ 9218868437227405312 < x.toNat % 2 ^ 63 := fun q => by
    have k1 := (FP.Core.isNaN_bits x).mpr q
    rw [(FP.Core.notNaN_iff x).mpr h] at k1
    cases k1
  have e1 : (0x7fffffffffffffff : UInt64).toNat = 2 ^ 63 - 1 := by decide +kernel
  have e2 : (9218868437227405312 : UInt64).toNat = 9218868437227405312 := by decide +kernel
  show x &&& 0x7fffffffffffffff ≤ 9218868437227405312
  rw [UInt64.le_iff_toNat_le, UInt64.toNat_and, e1, e2, Nat.and_two_pow_sub_one_eq_mod]
  omega
def f64 (E T : Nat) : UInt64 := UInt64.ofNat (E * 4503599627370496 + T)
theorem f64_n {E T : Nat} (h2 : E ≤ 2046) (hT : T < 4503599627370496) : (f64 E T).toNat = E * 4503599627370496 + T := by
  show (BitVec.ofNat 64 (E * 4503599627370496 + T)).toNat = _
  rw [BitVec.toNat_ofNat, Nat.mod_eq_of_lt (by omega)]
theorem f64_v {E T : Nat} (h1 : 1 ≤ E) (h2 : E ≤ 2046) (hT : T < 4503599627370496) : FP.Core.val64 (f64 E T) = .fin false (4503599627370496 + T) ((E : Int) - 1075) := by
  obtain ⟨c1, c2, c3, c4, c5⟩ := f64_c
  have e1 : E * 4503599627370496 + T = FP.Core.assemble FP.Core.b64 false E T := by
    show _ = (0 * FP.Core.b64.exps + E) * FP.Core.b64.tails + T
    rw [Nat.zero_mul, Nat.zero_add, c2]
  unfold FP.Core.val64
  rw [f64_n h2 hT, e1, FP.Core.decode_assemble _ _ _ _ (by rw [c1]; omega) (by rw [c2]; exact hT), if_neg (by rw [c1]; omega), if_neg (by omega), c2, c3]
  congr 1
  omega
theorem f64_vn {E T : Nat} (h1 : 1 ≤ E) (h2 : E ≤ 2046) (hT : T < 4503599627370496) : FP.Core.val64 (f64 E T) ≠ .nan := by
  rw [f64_v h1 h2 hT]
  exact fun h => by cases h
theorem f64_fits {c : Nat} {q : Int} (h1 : 4503599627370496 ≤ c) (h2 : c < 9007199254740992) (h3 : (-1074) ≤ q) (h4 : q ≤ 971) : FP.Core.fits FP.Core.b64 (.fin false c q) := by
  obtain ⟨c1, c2, c3, c4, c5⟩ := f64_c
  show c < 2 ^ FP.Core.b64.p ∧ FP.Core.b64.qmin ≤ q ∧ q ≤ FP.Core.b64.qmax ∧ (q = FP.Core.b64.qmin ∨ FP.Core.b64.tails ≤ c)
  rw [c2, c3, c4, c5]
  exact ⟨by omega, h3, h4, Or.inr h1⟩
theorem f64_ex1 {A B c : Nat} {e q : Int} (k : Nat) (hB : 0 < B) (hd : FP.Core.fits FP.Core.b64 (.fin false c q)) (he : e = q + k) (h : A * 2 ^ k = c * B) : FP.Core.roundRatio FP.Core.b64 false A B e = .fin false c q := by
  refine FP.Core.roundRatio_exact FP.Core.good_b64 hB hd ?_
  rw [show (e - q).toNat = k by omega, show (q - e).toNat = 0 by omega, h, Nat.pow_zero, Nat.mul_one]
theorem f64_ex2 {A B c : Nat} {e q : Int} (k : Nat) (hB : 0 < B) (hd : FP.Core.fits FP.Core.b64 (.fin false c q)) (he : q = e + k) (h : A = c * B * 2 ^ k) : FP.Core.roundRatio FP.Core.b64 false A B e = .fin false c q := by
  refine FP.Core.roundRatio_exact FP.Core.good_b64 hB hd ?_
  rw [show (e - q).toNat = 0 by omega, show (q - e).toNat = k by omega, h, Nat.pow_zero, Nat.mul_one]
theorem f64_two : FP.Core.val64 (4611686018427387904 : UInt64) = .fin false 4503599627370496 (-51) := by decide +kernel
theorem f64_one : FP.Core.val64 FP.dconst1 = .fin false 4503599627370496 (-52) := by decide +kernel
theorem f64_big : FP.Core.val64 (4841369599423283200 : UInt64) = .fin false 4503599627370496 0 := by decide +kernel
theorem f64_zro : FP.Core.val64 FP.dconst0 = .fin false 0 (-1074) := by decide +kernel
theorem f64_half {E T : Nat} (h1 : 2 ≤ E) (h2 : E ≤ 2046) (hT : T < 4503599627370496) : FP.ddiv (f64 E T) (4611686018427387904 : UInt64) = f64 (E - 1) T := by
  have e1 : FP.Core.val64 (FP.Core.ddiv (f64 E T) (4611686018427387904 : UInt64)) = .fin false (4503599627370496 + T) (((E - 1 : Nat) : Int) - 1075) := by
    rw [FP.Core.val64_ddiv, f64_v (by omega) h2 hT, f64_two, f_quo (by omega)]
    refine f64_ex1 52 (by omega) (f64_fits (by omega) (by omega) (by omega) (by omega)) (by omega) ?_
    rw [show 2 ^ 52 = 4503599627370496 from rfl]
  refine FP.Core.val64_inj ?_ ?_
  · show FP.Core.val64 (FP.Core.ddiv _ _) ≠ _
    rw [e1]
    exact fun h => by cases h
  · show FP.Core.val64 (FP.Core.ddiv _ _) = _
    rw [e1, f64_v (by omega) (by omega) hT]
theorem f64_twice {E T : Nat} (h1 : 1 ≤ E) (h2 : E + 1 ≤ 2046) (hT : T < 4503599627370496) : FP.dmul (f64 E T) (4611686018427387904 : UInt64) = f64 (E + 1) T := by
  have e1 : FP.Core.val64 (FP.Core.dmul (f64 E T) (4611686018427387904 : UInt64)) = .fin false (4503599627370496 + T) (((E + 1 : Nat) : Int) - 1075) := by
    rw [FP.Core.val64_dmul, f64_v h1 (by omega) hT, f64_two, f_prd]
    refine f64_ex2 52 (by omega) (f64_fits (by omega) (by omega) (by omega) (by omega)) (by omega) ?_
    rw [show 2 ^ 52 = 4503599627370496 from rfl, Nat.mul_one]
  refine FP.Core.val64_inj ?_ ?_
  · show FP.Core.val64 (FP.Core.dmul _ _) ≠ _
    rw [e1]
    exact fun h => by cases h
  · show FP.Core.val64 (FP.Core.dmul _ _) = _
    rw [e1, f64_v (by omega) h2 hT]
theorem f64_cmp {E T : Nat} {b : UInt64} (h1 : 1 ≤ E) (h2 : E ≤ 2046) (hT : T < 4503599627370496) (hb : FP.Core.val64 b ≠ .nan) (sb : b.toNat < 2 ^ 63) : (E * 4503599627370496 + T < b.toNat → FP.dcmp (f64 E T) b = some .lt) ∧ (E * 4503599627370496 + T = b.toNat → FP.dcmp (f64 E T) b = some .eq) ∧ (b.toNat < E * 4503599627370496 + T → FP.dcmp (f64 E T) b = some .gt) := by
  have h := FP.Core.mono_bits (f64_vn h1 h2 hT) hb (by rw [f64_n h2 hT]; omega) sb
  rw [f64_n h2 hT] at h
  exact ⟨h.1.mpr, h.2.1.mpr, h.2.2.mpr⟩
theorem f64_pos {E T : Nat} (h1 : 1 ≤ E) (h2 : E ≤ 2046) (hT : T < 4503599627370496) : (0 : Int32) < Op.cmpValue (FP.dcmp (f64 E T) FP.dconst0) .l := by
  have h := (f64_cmp (b := FP.dconst0) h1 h2 hT (by rw [f64_zro]; exact fun h => by cases h) (by decide +kernel)).2.2 (by rw [show (FP.dconst0 : UInt64).toNat = 0 from rfl]; omega)
  rw [h]
  decide +kernel
theorem f64_lt2 {E T : Nat} (h1 : 1 ≤ E) (h2 : E ≤ 2046) (hT : T < 4503599627370496) : Op.cmpValue (FP.dcmp (f64 E T) (4611686018427387904 : UInt64)) .l < (0 : Int32) ↔ E ≤ 1023 := by
  have h := f64_cmp (b := (4611686018427387904 : UInt64)) h1 h2 hT (by rw [f64_two]; exact fun h => by cases h) (by decide +kernel)
  rw [show ((4611686018427387904 : UInt64) : UInt64).toNat = 4611686018427387904 from rfl] at h
  by_cases g : E ≤ 1023
  · rw [h.1 (by omega)]
    exact ⟨fun _ => g, fun _ => by decide +kernel⟩
  · refine ⟨fun q => ?_, fun q => absurd q g⟩
    by_cases g2 : E * 4503599627370496 + T = 4611686018427387904
    · rw [h.2.1 g2] at q
      exact absurd q (by decide +kernel)
    · rw [h.2.2 (by omega)] at q
      exact absurd q (by decide +kernel)
theorem f64_ge1 {E T : Nat} (h1 : 1 ≤ E) (h2 : E ≤ 2046) (hT : T < 4503599627370496) : (0 : Int32) ≤ Op.cmpValue (FP.dcmp (f64 E T) FP.dconst1) .g ↔ 1023 ≤ E := by
  have h := f64_cmp (b := FP.dconst1) h1 h2 hT (by rw [f64_one]; exact fun h => by cases h) (by decide +kernel)
  rw [show (FP.dconst1 : UInt64).toNat = 4607182418800017408 from rfl] at h
  by_cases g : 1023 ≤ E
  · refine ⟨fun _ => g, fun _ => ?_⟩
    by_cases g2 : E * 4503599627370496 + T = 4607182418800017408
    · rw [h.2.1 g2]
      decide +kernel
    · rw [h.2.2 (by omega)]
      decide +kernel
  · refine ⟨fun q => ?_, fun q => absurd q g⟩
    rw [h.1 (by omega)] at q
    exact absurd q (by decide +kernel)
theorem f64_sub1 {T : Nat} (hT : T < 4503599627370496) : ∃ (c : Nat) (q : Int), FP.Core.val64 (FP.Core.dsub (f64 1023 T) FP.dconst1) = .fin false c q ∧ q ≤ 0 ∧ c * 4503599627370496 = T * 2 ^ (-q).toNat := by
  have e0 : FP.Core.val64 (FP.Core.dsub (f64 1023 T) FP.dconst1) = FP.Core.roundRatio FP.Core.b64 false T 1 (-52) := by
    have e1 : FP.Core.sumUnits false (4503599627370496 + T) (-52) true 4503599627370496 (-52) (min (-52) (-52)) = (T : Int) := by
      show (((4503599627370496 + T) * 2 ^ ((-52 : Int) - (min (-52) (-52))).toNat : Nat) : Int) + -((4503599627370496 * 2 ^ ((-52 : Int) - (min (-52) (-52))).toNat : Nat) : Int) = _
      rw [show ((-52 : Int) - (min (-52) (-52))).toNat = 0 from rfl, Nat.pow_zero, Nat.mul_one, Nat.mul_one]
      omega
    rw [FP.Core.val64_dsub, f64_v (by omega) (by omega) hT, f64_one, show ((1023 : Nat) : Int) - 1075 = -52 from rfl]
    show FP.Core.roundRatio FP.Core.b64 (FP.Core.sumSign false true (FP.Core.sumUnits false (4503599627370496 + T) (-52) true 4503599627370496 (-52) (min (-52) (-52)))) (FP.Core.sumUnits false (4503599627370496 + T) (-52) true 4503599627370496 (-52) (min (-52) (-52))).natAbs 1 (min (-52) (-52)) = _
    rw [e1]
    have e2 : FP.Core.sumSign false true (T : Int) = false := by
      unfold FP.Core.sumSign
      split
      · rfl
      · exact decide_eq_false (by omega)
    rw [e2]
    rfl
  by_cases h0 : T = 0
  · refine ⟨0, FP.Core.b64.qmin, ?_, by rw [f64_c.2.2.1]; omega, by rw [h0, Nat.zero_mul, Nat.zero_mul]⟩
    rw [e0, h0, f_rr0]
  · have k1 : T.log2 < 52 := (Nat.log2_lt h0).mpr (by omega)
    have k2 := Nat.log2_self_le h0
    have k3 : T < 2 ^ (T.log2 + 1) := Nat.lt_log2_self
    generalize T.log2 = k at k1 k2 k3
    have w1 : 2 ^ k * 2 ^ (52 - k) = 4503599627370496 := by rw [← Nat.pow_add, show k + (52 - k) = 52 by omega]
    have w2 : 2 ^ (k + 1) * 2 ^ (52 - k) = 9007199254740992 := by rw [← Nat.pow_add, show k + 1 + (52 - k) = 53 by omega]
    have w3 : 4503599627370496 ≤ T * 2 ^ (52 - k) := by rw [← w1]; exact Nat.mul_le_mul_right _ k2
    have w4 : T * 2 ^ (52 - k) < 9007199254740992 := by rw [← w2]; exact Nat.mul_lt_mul_of_pos_right k3 (Nat.pow_pos (by omega))
    refine ⟨T * 2 ^ (52 - k), (k : Int) - 104, ?_, by omega, ?_⟩
    · rw [e0]
      exact f64_ex1 (52 - k) (by omega) (f64_fits w3 w4 (by omega) (by omega)) (by omega) (by rw [Nat.mul_one])
    · rw [show (-((k : Int) - 104)).toNat = 52 - k + 52 by omega, Nat.pow_add, show 2 ^ 52 = 4503599627370496 from rfl, Nat.mul_assoc]
theorem f64_last {T : Nat} (hT : T < 4503599627370496) : vf_n64 (FP.dsub (f64 1023 T) FP.dconst1) ∧ vf_n64 (FP.dmul (FP.dsub (f64 1023 T) FP.dconst1) (4841369599423283200 : UInt64)) ∧ FP.d2l (FP.dmul (FP.dsub (f64 1023 T) FP.dconst1) (4841369599423283200 : UInt64)) = lN T := by
  obtain ⟨c, q, e1, hq, hc⟩ := f64_sub1 hT
  have e2 : FP.Core.Whole (T : Int) (FP.Core.val64 (FP.Core.dmul (FP.Core.dsub (f64 1023 T) FP.dconst1) (4841369599423283200 : UInt64))) := by
    rw [FP.Core.val64_dmul, e1, f64_big]
    refine FP.Core.whole_round FP.Core.good_b64 FP.Core.wide_b64 ?_ ?_
    · rw [f64_c.2.2.2.2]
      show T ≤ 2 ^ 53
      omega
    · show ((c * 4503599627370496 * 2 ^ (q + 0).toNat : Nat) : Int) = (T : Int) * ((2 ^ (-(q + 0)).toNat : Nat) : Int)
      rw [Int.add_zero, show q.toNat = 0 by omega, Nat.pow_zero, Nat.mul_one, hc, Int.natCast_mul]
  refine ⟨f64_nn ?_, f64_nn ?_, ?_⟩
  · show FP.Core.val64 (FP.Core.dsub _ _) ≠ _
    rw [e1]
    exact fun h => by cases h
  · exact FP.Core.Whole.ne_nan e2
  · refine FP.Core.d2l_int ?_
    show FP.Core.Whole _ _
    rw [show (lN T).toInt = (T : Int) from pk_lT (by omega)]
    exact e2
theorem f64_of {x : UInt64} {lo hi : Int} (h : f_pz FP.Core.b64 lo hi (FP.Core.val64 x)) (h1 : (-1074) < lo) (h2 : hi ≤ 971 - 1) : x = 0 ∨ ∃ E T, x = f64 E T ∧ 1 ≤ E ∧ E ≤ 2046 - 1 ∧ T < 4503599627370496 := by
  obtain ⟨c1, c2, c3, c4, c5⟩ := f64_c
  rcases h with h | ⟨c, q, h, a1, a2, a3, a4⟩
  · refine Or.inl (FP.Core.val64_inj (by rw [h]; exact fun g => by cases g) ?_)
    rw [h, c3]
    decide +kernel
  · refine Or.inr ⟨(q - (-1074)).toNat + 1, c - 4503599627370496, ?_, by omega, by omega, ?_⟩
    · refine FP.Core.val64_inj (by rw [h]; exact fun g => by cases g) ?_
      rw [c2] at a1
      rw [c5] at a2
      rw [h, f64_v (by omega) (by omega) (by omega), show 4503599627370496 + (c - 4503599627370496) = c by omega]
      congr 1
      omega
    · rw [c2] at a1
      rw [c5] at a2
      omega
