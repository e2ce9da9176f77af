
/-! UInt32: bits, and the few steps that the class takes -/
theorem f32_c : FP.Core.b32.exps = 256 ∧ FP.Core.b32.tails = 8388608 ∧ FP.Core.b32.qmin = (-149) ∧ FP.Core.b32.qmax = 104 ∧ FP.Core.b32.p = 24 := by decide +kernel
theorem f32_nn {x : UInt32} (h : FP.Core.val32 x ≠ .nan) : vf_n32 x := by
  have h1 : ¬ 2139095040 < x.toNat % 2 ^ 31 := fun q => by
    have k1 := (FP.Core.isNaN_bits32 x).mpr q
    rw [(FP.Core.notNaN_iff32 x).mpr h] at k1
    cases k1
  have e1 : (0x7fffffff : UInt32).toNat = 2 ^ 31 - 1 := by decide +kernel
  have e2 : (2139095040 : UInt32).toNat = 2139095040 := by decide +kernel
  show x &&& 0x7fffffff ≤ 2139095040
  rw [UInt32.le_iff_toNat_le, UInt32.toNat_and, e1, e2, Nat.and_two_pow_sub_one_eq_mod]
  omega
def f32 (E T : Nat) : UInt32 := UInt32.ofNat (E * 8388608 + T)
theorem f32_n {E T : Nat} (h2 : E ≤ 254) (hT : T < 8388608) : (f32 E T).toNat = E * 8388608 + T := by
  show (BitVec.ofNat 32 (E * 8388608 + T)).toNat = _
  rw [BitVec.toNat_ofNat, Nat.mod_eq_of_lt (by omega)]
theorem f32_v {E T : Nat} (h1 : 1 ≤ E) (h2 : E ≤ 254) (hT : T < 8388608) : FP.Core.val32 (f32 E T) = .fin false (8388608 + T) ((E : Int) - 150) := by
  obtain ⟨c1, c2, c3, c4, c5⟩ := f32_c
  have e1 : E * 8388608 + T = FP.Core.assemble FP.Core.b32 false E T := by
    show _ = (0 * FP.Core.b32.exps + E) * FP.Core.b32.tails + T
    rw [Nat.zero_mul, Nat.zero_add, c2]
  unfold FP.Core.val32
  rw [f32_n h2 hT, e1, FP.Core.decode_assemble _ _ _ _ (by rw [c1]; omega) (by rw [c2]; exact hT), if_neg (by rw [c1]; omega), if_neg (by omega), c2, c3]
  congr 1
  omega
theorem f32_vn {E T : Nat} (h1 : 1 ≤ E) (h2 : E ≤ 254) (hT : T < 8388608) : FP.Core.val32 (f32 E T) ≠ .nan := by
  rw [f32_v h1 h2 hT]
  exact fun h => by cases h
theorem f32_fits {c : Nat} {q : Int} (h1 : 8388608 ≤ c) (h2 : c < 16777216) (h3 : (-149) ≤ q) (h4 : q ≤ 104) : FP.Core.fits FP.Core.b32 (.fin false c q) := by
  obtain ⟨c1, c2, c3, c4, c5⟩ := f32_c
  show c < 2 ^ FP.Core.b32.p ∧ FP.Core.b32.qmin ≤ q ∧ q ≤ FP.Core.b32.qmax ∧ (q = FP.Core.b32.qmin ∨ FP.Core.b32.tails ≤ c)
  rw [c2, c3, c4, c5]
  exact ⟨by omega, h3, h4, Or.inr h1⟩
theorem f32_ex1 {A B c : Nat} {e q : Int} (k : Nat) (hB : 0 < B) (hd : FP.Core.fits FP.Core.b32 (.fin false c q)) (he : e = q + k) (h : A * 2 ^ k = c * B) : FP.Core.roundRatio FP.Core.b32 false A B e = .fin false c q := by
  refine FP.Core.roundRatio_exact FP.Core.good_b32 hB hd ?_
  rw [show (e - q).toNat = k by omega, show (q - e).toNat = 0 by omega, h, Nat.pow_zero, Nat.mul_one]
theorem f32_ex2 {A B c : Nat} {e q : Int} (k : Nat) (hB : 0 < B) (hd : FP.Core.fits FP.Core.b32 (.fin false c q)) (he : q = e + k) (h : A = c * B * 2 ^ k) : FP.Core.roundRatio FP.Core.b32 false A B e = .fin false c q := by
  refine FP.Core.roundRatio_exact FP.Core.good_b32 hB hd ?_
  rw [show (e - q).toNat = 0 by omega, show (q - e).toNat = k by omega, h, Nat.pow_zero, Nat.mul_one]
theorem f32_two : FP.Core.val32 FP.fconst2 = .fin false 8388608 (-22) := by decide +kernel
theorem f32_one : FP.Core.val32 FP.fconst1 = .fin false 8388608 (-23) := by decide +kernel
theorem f32_big : FP.Core.val32 (1258291200 : UInt32) = .fin false 8388608 0 := by decide +kernel
theorem f32_zro : FP.Core.val32 FP.fconst0 = .fin false 0 (-149) := by decide +kernel
theorem f32_half {E T : Nat} (h1 : 2 ≤ E) (h2 : E ≤ 254) (hT : T < 8388608) : FP.fdiv (f32 E T) FP.fconst2 = f32 (E - 1) T := by
  have e1 : FP.Core.val32 (FP.Core.fdiv (f32 E T) FP.fconst2) = .fin false (8388608 + T) (((E - 1 : Nat) : Int) - 150) := by
    rw [FP.Core.val32_fdiv, f32_v (by omega) h2 hT, f32_two, f_quo (by omega)]
    refine f32_ex1 23 (by omega) (f32_fits (by omega) (by omega) (by omega) (by omega)) (by omega) ?_
    rw [show 2 ^ 23 = 8388608 from rfl]
  refine FP.Core.val32_inj ?_ ?_
  · show FP.Core.val32 (FP.Core.fdiv _ _) ≠ _
    rw [e1]
    exact fun h => by cases h
  · show FP.Core.val32 (FP.Core.fdiv _ _) = _
    rw [e1, f32_v (by omega) (by omega) hT]
theorem f32_twice {E T : Nat} (h1 : 1 ≤ E) (h2 : E + 1 ≤ 254) (hT : T < 8388608) : FP.fmul (f32 E T) FP.fconst2 = f32 (E + 1) T := by
  have e1 : FP.Core.val32 (FP.Core.fmul (f32 E T) FP.fconst2) = .fin false (8388608 + T) (((E + 1 : Nat) : Int) - 150) := by
    rw [FP.Core.val32_fmul, f32_v h1 (by omega) hT, f32_two, f_prd]
    refine f32_ex2 23 (by omega) (f32_fits (by omega) (by omega) (by omega) (by omega)) (by omega) ?_
    rw [show 2 ^ 23 = 8388608 from rfl, Nat.mul_one]
  refine FP.Core.val32_inj ?_ ?_
  · show FP.Core.val32 (FP.Core.fmul _ _) ≠ _
    rw [e1]
    exact fun h => by cases h
  · show FP.Core.val32 (FP.Core.fmul _ _) = _
    rw [e1, f32_v (by omega) h2 hT]
theorem f32_cmp {E T : Nat} {b : UInt32} (h1 : 1 ≤ E) (h2 : E ≤ 254) (hT : T < 8388608) (hb : FP.Core.val32 b ≠ .nan) (sb : b.toNat < 2 ^ 31) : (E * 8388608 + T < b.toNat → FP.fcmp (f32 E T) b = some .lt) ∧ (E * 8388608 + T = b.toNat → FP.fcmp (f32 E T) b = some .eq) ∧ (b.toNat < E * 8388608 + T → FP.fcmp (f32 E T) b = some .gt) := by
  have h := FP.Core.mono_bits32 (f32_vn h1 h2 hT) hb (by rw [f32_n h2 hT]; omega) sb
  rw [f32_n h2 hT] at h
  exact ⟨h.1.mpr, h.2.1.mpr, h.2.2.mpr⟩
theorem f32_pos {E T : Nat} (h1 : 1 ≤ E) (h2 : E ≤ 254) (hT : T < 8388608) : (0 : Int32) < Op.cmpValue (FP.fcmp (f32 E T) FP.fconst0) .l := by
  have h := (f32_cmp (b := FP.fconst0) h1 h2 hT (by rw [f32_zro]; exact fun h => by cases h) (by decide +kernel)).2.2 (by rw [show (FP.fconst0 : UInt32).toNat = 0 from rfl]; omega)
  rw [h]
  decide +kernel
theorem f32_lt2 {E T : Nat} (h1 : 1 ≤ E) (h2 : E ≤ 254) (hT : T < 8388608) : Op.cmpValue (FP.fcmp (f32 E T) FP.fconst2) .l < (0 : Int32) ↔ E ≤ 127 := by
  have h := f32_cmp (b := FP.fconst2) h1 h2 hT (by rw [f32_two]; exact fun h => by cases h) (by decide +kernel)
  rw [show (FP.fconst2 : UInt32).toNat = 1073741824 from rfl] at h
  by_cases g : E ≤ 127
  · rw [h.1 (by omega)]
    exact ⟨fun _ => g, fun _ => by decide +kernel⟩
  · refine ⟨fun q => ?_, fun q => absurd q g⟩
    by_cases g2 : E * 8388608 + T = 1073741824
    · rw [h.2.1 g2] at q
      exact absurd q (by decide +kernel)
    · rw [h.2.2 (by omega)] at q
      exact absurd q (by decide +kernel)
theorem f32_ge1 {E T : Nat} (h1 : 1 ≤ E) (h2 : E ≤ 254) (hT : T < 8388608) : (0 : Int32) ≤ Op.cmpValue (FP.fcmp (f32 E T) FP.fconst1) .g ↔ 127 ≤ E := by
  have h := f32_cmp (b := FP.fconst1) h1 h2 hT (by rw [f32_one]; exact fun h => by cases h) (by decide +kernel)
  rw [show (FP.fconst1 : UInt32).toNat = 1065353216 from rfl] at h
  by_cases g : 127 ≤ E
  · refine ⟨fun _ => g, fun _ => ?_⟩
    by_cases g2 : E * 8388608 + T = 1065353216
    · rw [h.2.1 g2]
      decide +kernel
    · rw [h.2.2 (by omega)]
      decide +kernel
  · refine ⟨fun q => ?_, fun q => absurd q g⟩
    rw [h.1 (by omega)] at q
    exact absurd q (by decide +kernel)
theorem f32_sub1 {T : Nat} (hT : T < 8388608) : ∃ (c : Nat) (q : Int), FP.Core.val32 (FP.Core.fsub (f32 127 T) FP.fconst1) = .fin false c q ∧ q ≤ 0 ∧ c * 8388608 = T * 2 ^ (-q).toNat := by
  have e0 : FP.Core.val32 (FP.Core.fsub (f32 127 T) FP.fconst1) = FP.Core.roundRatio FP.Core.b32 false T 1 (-23) := by
    have e1 : FP.Core.sumUnits false (8388608 + T) (-23) true 8388608 (-23) (min (-23) (-23)) = (T : Int) := by
      show (((8388608 + T) * 2 ^ ((-23 : Int) - (min (-23) (-23))).toNat : Nat) : Int) + -((8388608 * 2 ^ ((-23 : Int) - (min (-23) (-23))).toNat : Nat) : Int) = _
      rw [show ((-23 : Int) - (min (-23) (-23))).toNat = 0 from rfl, Nat.pow_zero, Nat.mul_one, Nat.mul_one]
      omega
    rw [FP.Core.val32_fsub, f32_v (by omega) (by omega) hT, f32_one, show ((127 : Nat) : Int) - 150 = -23 from rfl]
    show FP.Core.roundRatio FP.Core.b32 (FP.Core.sumSign false true (FP.Core.sumUnits false (8388608 + T) (-23) true 8388608 (-23) (min (-23) (-23)))) (FP.Core.sumUnits false (8388608 + T) (-23) true 8388608 (-23) (min (-23) (-23))).natAbs 1 (min (-23) (-23)) = _
    rw [e1]
    have e2 : FP.Core.sumSign false true (T : Int) = false := by
      unfold FP.Core.sumSign
      split
      · rfl
      · exact decide_eq_false (by omega)
    rw [e2]
    rfl
  by_cases h0 : T = 0
  · refine ⟨0, FP.Core.b32.qmin, ?_, by rw [f32_c.2.2.1]; omega, by rw [h0, Nat.zero_mul, Nat.zero_mul]⟩
    rw [e0, h0, f_rr0]
  · have k1 : T.log2 < 23 := (Nat.log2_lt h0).mpr (by omega)
    have k2 := Nat.log2_self_le h0
    have k3 : T < 2 ^ (T.log2 + 1) := Nat.lt_log2_self
    generalize T.log2 = k at k1 k2 k3
    have w1 : 2 ^ k * 2 ^ (23 - k) = 8388608 := by rw [← Nat.pow_add, show k + (23 - k) = 23 by omega]
    have w2 : 2 ^ (k + 1) * 2 ^ (23 - k) = 16777216 := by rw [← Nat.pow_add, show k + 1 + (23 - k) = 24 by omega]
    have w3 : 8388608 ≤ T * 2 ^ (23 - k) := by rw [← w1]; exact Nat.mul_le_mul_right _ k2
    have w4 : T * 2 ^ (23 - k) < 16777216 := by rw [← w2]; exact Nat.mul_lt_mul_of_pos_right k3 (Nat.pow_pos (by omega))
    refine ⟨T * 2 ^ (23 - k), (k : Int) - 46, ?_, by omega, ?_⟩
    · rw [e0]
      exact f32_ex1 (23 - k) (by omega) (f32_fits w3 w4 (by omega) (by omega)) (by omega) (by rw [Nat.mul_one])
    · rw [show (-((k : Int) - 46)).toNat = 23 - k + 23 by omega, Nat.pow_add, show 2 ^ 23 = 8388608 from rfl, Nat.mul_assoc]
theorem f32_last {T : Nat} (hT : T < 8388608) : vf_n32 (FP.fsub (f32 127 T) FP.fconst1) ∧ vf_n32 (FP.fmul (FP.fsub (f32 127 T) FP.fconst1) (1258291200 : UInt32)) ∧ FP.f2i (FP.fmul (FP.fsub (f32 127 T) FP.fconst1) (1258291200 : UInt32)) = nI T := by
  obtain ⟨c, q, e1, hq, hc⟩ := f32_sub1 hT
  have e2 : FP.Core.Whole (T : Int) (FP.Core.val32 (FP.Core.fmul (FP.Core.fsub (f32 127 T) FP.fconst1) (1258291200 : UInt32))) := by
    rw [FP.Core.val32_fmul, e1, f32_big]
    refine FP.Core.whole_round FP.Core.good_b32 FP.Core.wide_b32 ?_ ?_
    · rw [f32_c.2.2.2.2]
      show T ≤ 2 ^ 24
      omega
    · show ((c * 8388608 * 2 ^ (q + 0).toNat : Nat) : Int) = (T : Int) * ((2 ^ (-(q + 0)).toNat : Nat) : Int)
      rw [Int.add_zero, show q.toNat = 0 by omega, Nat.pow_zero, Nat.mul_one, hc, Int.natCast_mul]
  refine ⟨f32_nn ?_, f32_nn ?_, ?_⟩
  · show FP.Core.val32 (FP.Core.fsub _ _) ≠ _
    rw [e1]
    exact fun h => by cases h
  · exact FP.Core.Whole.ne_nan e2
  · refine FP.Core.f2i_int ?_
    show FP.Core.Whole _ _
    rw [show (nI T).toInt = (T : Int) from nI_toInt (by omega)]
    exact e2
theorem f32_of {x : UInt32} {lo hi : Int} (h : f_pz FP.Core.b32 lo hi (FP.Core.val32 x)) (h1 : (-149) < lo) (h2 : hi ≤ 104 - 1) : x = 0 ∨ ∃ E T, x = f32 E T ∧ 1 ≤ E ∧ E ≤ 254 - 1 ∧ T < 8388608 := by
  obtain ⟨c1, c2, c3, c4, c5⟩ := f32_c
  rcases h with h | ⟨c, q, h, a1, a2, a3, a4⟩
  · refine Or.inl (FP.Core.val32_inj (by rw [h]; exact fun g => by cases g) ?_)
    rw [h, c3]
    decide +kernel
  · refine Or.inr ⟨(q - (-149)).toNat + 1, c - 8388608, ?_, by omega, by omega, ?_⟩
    · refine FP.Core.val32_inj (by rw [h]; exact fun g => by cases g) ?_
      rw [c2] at a1
      rw [c5] at a2
      rw [h, f32_v (by omega) (by omega) (by omega), show 8388608 + (c - 8388608) = c by omega]
      congr 1
      omega
    · rw [c2] at a1
      rw [c5] at a2
      omega
