/-! floats and doubles that are not below 0: how their last digit lies -/
theorem f_rr0 {f : FP.Core.Fmt} {s : Bool} {B : Nat} {e : Int} : FP.Core.roundRatio f s 0 B e = .fin s 0 f.qmin := by
  unfold FP.Core.roundRatio
  rw [if_pos rfl]
theorem f_rrn {f : FP.Core.Fmt} {s : Bool} {A B : Nat} {e : Int} : FP.Core.roundRatio f s A B e ≠ .nan := by
  unfold FP.Core.roundRatio
  split
  · exact fun h => by cases h
  · unfold FP.Core.roundAt FP.Core.settle FP.Core.bound
    split
    · split
      · exact fun h => by cases h
      · exact fun h => by cases h
    · split
      · exact fun h => by cases h
      · exact fun h => by cases h
theorem f_round {f : FP.Core.Fmt} (hf : FP.Core.Good f) {s : Bool} {A B : Nat} {e q0 lo hi : Int} (hA : 0 < A) (hB : 0 < B) (h0 : q0 = FP.Core.leading A B + e - ((f.p : Int) - 1)) (h1 : lo ≤ q0) (h2 : q0 + 1 ≤ hi) (hlo : f.qmin < lo) (hhi : hi ≤ f.qmax) :
    ∃ c q, FP.Core.roundRatio f s A B e = .fin s c q ∧ f.tails ≤ c ∧ c < 2 ^ f.p ∧ lo ≤ q ∧ q ≤ hi := by
  have hfit := FP.Core.roundRatio_fits hf s A hB e
  have hq : FP.Core.quantum f A B e = q0 := by
    unfold FP.Core.quantum
    omega
  have h3 : FP.Core.roundRatio f s A B e = FP.Core.settle f s (FP.Core.nearest (FP.Core.unitsNum A e q0) (FP.Core.unitsDen B e q0)) q0 := by
    unfold FP.Core.roundRatio FP.Core.roundAt
    rw [if_neg (by omega), hq]
  generalize FP.Core.nearest (FP.Core.unitsNum A e q0) (FP.Core.unitsDen B e q0) = N at h3
  unfold FP.Core.settle FP.Core.bound at h3
  by_cases hN : N < 2 ^ f.p
  · rw [if_pos hN, if_pos (by omega)] at h3
    rw [h3] at hfit
    obtain ⟨a1, a2, a3, a4⟩ := hfit
    exact ⟨N, q0, h3, by omega, a1, h1, by omega⟩
  · rw [if_neg hN, if_pos (by omega)] at h3
    rw [h3] at hfit
    obtain ⟨a1, a2, a3, a4⟩ := hfit
    exact ⟨f.tails, q0 + 1, h3, Nat.le_refl _, a1, by omega, by omega⟩
theorem f_lead {A B a b : Nat} (hA : A < 2 ^ a) (hB : B < 2 ^ b) (h0 : 0 < A) (h1 : 0 < B) : -(b : Int) ≤ FP.Core.leading A B ∧ FP.Core.leading A B < a := by
  have k1 := (Nat.log2_lt (show A ≠ 0 by omega)).mpr hA
  have k2 := (Nat.log2_lt (show B ≠ 0 by omega)).mpr hB
  unfold FP.Core.leading
  dsimp only
  split
  · omega
  · omega
/-- 0, or a number whose last digit lies from lo to hi -/
def f_pz (f : FP.Core.Fmt) (lo hi : Int) (d : FP.Core.Datum) : Prop := d = .fin false 0 f.qmin ∨ ∃ c q, d = .fin false c q ∧ f.tails ≤ c ∧ c < 2 ^ f.p ∧ lo ≤ q ∧ q ≤ hi
theorem f_pz.nn {f : FP.Core.Fmt} {lo hi : Int} {d : FP.Core.Datum} (h : f_pz f lo hi d) : d ≠ .nan := by
  rcases h with h | ⟨c, q, h, _⟩
  · rw [h]; exact fun g => by cases g
  · rw [h]; exact fun g => by cases g
theorem f_rr {f : FP.Core.Fmt} (hf : FP.Core.Good f) {A B a b : Nat} {e lo hi : Int} (h0 : 0 < A) (hB : 0 < B) (hA : A < 2 ^ a) (hb : B < 2 ^ b) (h1 : lo ≤ e - b - f.p + 1) (h2 : (a : Int) + e - f.p + 1 ≤ hi) (hlo : f.qmin < lo) (hhi : hi ≤ f.qmax) : ∃ c q, FP.Core.roundRatio f false A B e = .fin false c q ∧ f.tails ≤ c ∧ c < 2 ^ f.p ∧ lo ≤ q ∧ q ≤ hi := by
  obtain ⟨k1, k2⟩ := f_lead hA hb h0 hB
  exact f_round hf h0 hB rfl (by omega) (by omega) hlo hhi
theorem f_quo {f : FP.Core.Fmt} {c d : Nat} {q r : Int} (hd : d ≠ 0) : FP.Core.quotient f (.fin false c q) (.fin false d r) = FP.Core.roundRatio f false c d (q - r) := by
  show (if d = 0 then (if c = 0 then FP.Core.Datum.nan else .inf (false != false)) else FP.Core.roundRatio f (false != false) c d (q - r)) = _
  rw [if_neg hd]
  rfl
theorem f_prd {f : FP.Core.Fmt} {c d : Nat} {q r : Int} : FP.Core.round f (FP.Core.exactProduct (.fin false c q) (.fin false d r)) = FP.Core.roundRatio f false (c * d) 1 (q + r) := rfl
theorem f_pz_mul {f : FP.Core.Fmt} (hf : FP.Core.Good f) {x y : FP.Core.Datum} {lo1 hi1 lo2 hi2 lo hi : Int} (hx : f_pz f lo1 hi1 x) (hy : f_pz f lo2 hi2 y) (h1 : lo ≤ lo1 + lo2 - f.p) (h2 : hi1 + hi2 + f.p + 1 ≤ hi) (hlo : f.qmin < lo) (hhi : hi ≤ f.qmax) : f_pz f lo hi (FP.Core.round f (FP.Core.exactProduct x y)) := by
  rcases hx with rfl | ⟨c, q, rfl, x1, x2, x3, x4⟩
  · rcases hy with rfl | ⟨d, r, rfl, y1, y2, y3, y4⟩
    · refine Or.inl ?_
      rw [f_prd, Nat.zero_mul, f_rr0]
    · refine Or.inl ?_
      rw [f_prd, Nat.zero_mul, f_rr0]
  · rcases hy with rfl | ⟨d, r, rfl, y1, y2, y3, y4⟩
    · refine Or.inl ?_
      rw [f_prd, Nat.mul_zero, f_rr0]
    · refine Or.inr ?_
      rw [f_prd]
      have ht := FP.Core.tails_pos f
      have hm : c * d < 2 ^ (f.p + f.p) := by
        rw [Nat.pow_add]
        exact Nat.mul_lt_mul_of_lt_of_lt x2 y2
      refine f_rr (a := f.p + f.p) (b := 1) hf (Nat.mul_pos (by omega) (by omega)) (by omega) hm (by omega) (by omega) (by omega) hlo hhi
theorem f_pz_div {f : FP.Core.Fmt} (hf : FP.Core.Good f) {x y : FP.Core.Datum} {lo1 hi1 lo2 hi2 lo hi : Int} (hx : f_pz f lo1 hi1 x) (hy : f_pz f lo2 hi2 y) (hz : y ≠ .fin false 0 f.qmin) (h1 : lo ≤ lo1 - hi2 - 2 * f.p + 1) (h2 : hi1 - lo2 + 1 ≤ hi) (hlo : f.qmin < lo) (hhi : hi ≤ f.qmax) : f_pz f lo hi (FP.Core.quotient f x y) := by
  have ht := FP.Core.tails_pos f
  rcases hy with rfl | ⟨d, r, rfl, y1, y2, y3, y4⟩
  · exact absurd rfl hz
  · rcases hx with rfl | ⟨c, q, rfl, x1, x2, x3, x4⟩
    · refine Or.inl ?_
      rw [f_quo (by omega), f_rr0]
    · refine Or.inr ?_
      rw [f_quo (by omega)]
      exact f_rr (a := f.p) (b := f.p) hf (by omega) (by omega) x2 y2 (by omega) (by omega) hlo hhi
theorem f_pz_fits {f : FP.Core.Fmt} (hf : FP.Core.Good f) {x : FP.Core.Datum} {lo hi : Int} (hx : f_pz f lo hi x) (hlo : f.qmin < lo) (hhi : hi ≤ f.qmax) : FP.Core.fits f x := by
  rcases hx with rfl | ⟨c, q, rfl, x1, x2, x3, x4⟩
  · exact FP.Core.zero_fits hf false
  · show c < 2 ^ f.p ∧ f.qmin ≤ q ∧ q ≤ f.qmax ∧ (q = f.qmin ∨ f.tails ≤ c)
    exact ⟨x2, by omega, by omega, Or.inr x1⟩
theorem f_pz_sign {f : FP.Core.Fmt} {x : FP.Core.Datum} {lo hi : Int} (hx : f_pz f lo hi x) : ∀ s q, x = .fin s 0 q → s = false ∨ (s = false ∧ false = true) := by
  intro s q h
  rcases hx with rfl | ⟨c, r, rfl, _⟩
  · exact Or.inl (FP.Core.Datum.fin.inj h).1.symm
  · exact Or.inl (FP.Core.Datum.fin.inj h).1.symm
theorem f_pz_mono {f : FP.Core.Fmt} {x : FP.Core.Datum} {lo hi lo' hi' : Int} (hx : f_pz f lo hi x) (h1 : lo' ≤ lo) (h2 : hi ≤ hi') : f_pz f lo' hi' x := by
  rcases hx with h | ⟨c, q, h, x1, x2, x3, x4⟩
  · exact Or.inl h
  · exact Or.inr ⟨c, q, h, x1, x2, by omega, by omega⟩
theorem f_sum_eq {f : FP.Core.Fmt} {c d : Nat} {q r : Int} : FP.Core.round f (FP.Core.exactSum (.fin false c q) (.fin false d r)) = FP.Core.roundRatio f false (c * 2 ^ (q - min q r).toNat + d * 2 ^ (r - min q r).toNat) 1 (min q r) := by
  have e1 : FP.Core.sumUnits false c q false d r (min q r) = ((c * 2 ^ (q - min q r).toNat + d * 2 ^ (r - min q r).toNat : Nat) : Int) := by
    show ((c * 2 ^ (q - min q r).toNat : Nat) : Int) + ((d * 2 ^ (r - min q r).toNat : Nat) : Int) = _
    exact (Int.natCast_add _ _).symm
  show FP.Core.roundRatio f (FP.Core.sumSign false false (FP.Core.sumUnits false c q false d r (min q r))) (FP.Core.sumUnits false c q false d r (min q r)).natAbs 1 (min q r) = _
  rw [e1]
  generalize c * 2 ^ (q - min q r).toNat + d * 2 ^ (r - min q r).toNat = V
  have e2 : FP.Core.sumSign false false (V : Int) = false := by
    unfold FP.Core.sumSign
    split
    · rfl
    · exact decide_eq_false (by omega)
  rw [e2]
  rfl
theorem f_pz_add {f : FP.Core.Fmt} (hf : FP.Core.Good f) {x y : FP.Core.Datum} {lo1 hi1 lo2 hi2 lo hi : Int} {K : Nat} (hx : f_pz f lo1 hi1 x) (hy : f_pz f lo2 hi2 y) (k1 : hi1 - lo2 ≤ K) (k2 : hi2 - lo1 ≤ K) (h1 : lo ≤ lo1 - f.p) (h1' : lo ≤ lo2 - f.p) (h2 : hi1 + K + 2 ≤ hi) (h2' : hi2 + K + 2 ≤ hi) (hlo : f.qmin < lo) (hhi : hi ≤ f.qmax) : f_pz f lo hi (FP.Core.round f (FP.Core.exactSum x y)) := by
  have ht := FP.Core.tails_pos f
  have fx := f_pz_fits hf hx
  have fy := f_pz_fits hf hy
  have sx := f_pz_sign hx
  have sy := f_pz_sign hy
  have hx' := hx
  have hy' := hy
  rcases hy with rfl | ⟨d, r, rfl, y1, y2, y3, y4⟩
  · rw [FP.Core.round_sum_zero hf (fx (by omega) (by omega)) false sx]
    exact f_pz_mono hx' (by omega) (by omega)
  · rcases hx with rfl | ⟨c, q, rfl, x1, x2, x3, x4⟩
    · rw [FP.Core.exactSum_comm, FP.Core.round_sum_zero hf (fy (by omega) (by omega)) false sy]
      exact f_pz_mono hy' (by omega) (by omega)
    · refine Or.inr ?_
      rw [f_sum_eq]
      have g1 : (q - min q r).toNat ≤ K := by omega
      have g2 : (r - min q r).toNat ≤ K := by omega
      have p1 : c * 2 ^ (q - min q r).toNat < 2 ^ f.p * 2 ^ K := Nat.mul_lt_mul_of_lt_of_le x2 (Nat.pow_le_pow_right (by omega) g1) (Nat.pow_pos (by omega))
      have p2 : d * 2 ^ (r - min q r).toNat < 2 ^ f.p * 2 ^ K := Nat.mul_lt_mul_of_lt_of_le y2 (Nat.pow_le_pow_right (by omega) g2) (Nat.pow_pos (by omega))
      have p3 : 0 < c * 2 ^ (q - min q r).toNat := Nat.mul_pos (by omega) (Nat.pow_pos (by omega))
      have p4 : 2 ^ (f.p + K + 1) = 2 ^ f.p * 2 ^ K + 2 ^ f.p * 2 ^ K := by rw [Nat.pow_succ, Nat.pow_add]; omega
      exact f_rr (a := f.p + K + 1) (b := 1) hf (by omega) (by omega) (by omega) (by omega) (by omega) (by omega) hlo hhi
