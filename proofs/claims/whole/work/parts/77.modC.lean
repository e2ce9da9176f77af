/-! the reference: bounds, a step -/
def y_bd (n : Nat) (w p : Nat → Nat) : Prop := n ≤ 60 ∧ (∀ j, j < n → 1 ≤ w j ∧ 1 ≤ p j) ∧ z_sm w n < 2 ^ 31 ∧ z_sm p n < 2 ^ 31
def y_wp (n : Nat) (w p : Nat → Nat) (t_w t_p : Nat → Int64) : Prop := ∀ j, j < n → t_w j = lN (w j) ∧ t_p j = lN (p j)
theorem y_bd.lt {n : Nat} {w p : Nat → Nat} (h : y_bd n w p) {j : Nat} (hj : j < n) : w j < 2 ^ 31 ∧ p j < 2 ^ 31 :=
  ⟨Nat.lt_of_le_of_lt (z_sm_1 hj) h.2.2.1, Nat.lt_of_le_of_lt (z_sm_1 hj) h.2.2.2⟩
/-- 'to', of the place behind it -/
def y_to (t : Nat) : Int32 := nI t - 1
theorem y_to_1 (t : Nat) : y_to t + nI 1 = nI t := Int32.sub_add_cancel _ _
theorem y_to_toInt {t : Nat} (h : t < 2 ^ 31) : (y_to t).toInt = (t : Int) - 1 := by
  unfold y_to
  rw [Jvm.Kit.i32_sub, nI_toInt h]
  · rfl
  · rw [nI_toInt h]; show -2 ^ 31 ≤ (t : Int) - 1; omega
  · rw [nI_toInt h]; show (t : Int) - 1 < 2 ^ 31; omega
theorem y_to_lt {t n : Nat} (ht : t < 2 ^ 31) (hn : n < 2 ^ 31) : y_to t < y_to n ↔ t < n := by
  rw [Int32.lt_iff_toInt_lt, y_to_toInt ht, y_to_toInt hn]; omega
theorem y_to_eq {t n : Nat} (ht : t < 2 ^ 31) (hn : n < 2 ^ 31) : y_to t = y_to n ↔ t = n := by
  rw [← Int32.toInt_inj, y_to_toInt ht, y_to_toInt hn]; omega
theorem nI_div {a b : Nat} (ha : a < 2 ^ 31) (h0 : 0 < b) (hb : b < 2 ^ 31) : nI a / nI b = nI (a / b) := by
  have hd : a / b < 2 ^ 31 := Nat.lt_of_le_of_lt (Nat.div_le_self _ _) ha
  rw [← Int32.toInt_inj, Jvm.Kit.i32_div, nI_toInt ha, nI_toInt hb, nI_toInt hd]
  · rfl
  · rw [nI_toInt ha]; omega
theorem nI_mul (a b : Nat) : nI a * nI b = nI (a * b) := (Int32.ofNat_mul a b).symm
theorem nI_rem2 {m : Nat} (h : m < 2 ^ 31) : nI m - nI m / nI 2 * nI 2 = nI (m % 2) := by
  rw [nI_div h (by omega) (by omega), nI_mul, nI_sub (by omega)]
  congr 1
  omega
theorem s7_isRight {n f t m : Nat} {post : Int32 → Prop} (hn : n ≤ 60) (hf : f ≤ 60) (ht : t ≤ 60) (hm : m ≤ 60) (h1 : z_right n f t m = true → post 1) (h0 : ¬ z_right n f t m = true → post 0) : wX7_isRight (nI n) (nI f) (y_to t) (nI m) post := by
  unfold z_right at h1 h0
  rw [decide_eq_true_iff] at h1 h0
  have h22 : ¬ (m % 2 = 0 ∧ t < n) → wX7_isRight_22 (nI n) (nI f) (y_to t) (nI m) post := fun h => by
    unfold wX7_isRight_22 wX7_isRight_29
    simp (disch := omega) only [q32, q64, nI_add, nI_ltI, nI_leI, nI_eq, nI_clamp, vp_in_nI, lN_add, lN_mul, pk_lLT, pk_lLE, pk_lEQ, nI_l, lN_i, nI_sub, nI_an, lN_sub, lN_an, Nat.add_sub_cancel, and_true, true_and]
    exact ⟨fun g => h1 (Or.inr g), fun g => h0 (by omega)⟩
  unfold wX7_isRight wX7_isRight_29
  have e : nI n - 1 = y_to n := rfl
  rw [e, show nI m - nI m / 2 * 2 = nI (m % 2) from nI_rem2 (by omega)]
  simp (disch := omega) only [y_to_lt]
  simp (disch := omega) only [q32, q64, nI_add, nI_ltI, nI_leI, nI_eq, nI_clamp, vp_in_nI, lN_add, lN_mul, pk_lLT, pk_lLE, pk_lEQ, nI_l, lN_i, nI_sub, nI_an, lN_sub, lN_an, Nat.add_sub_cancel, and_true, true_and]
  exact ⟨fun g => ⟨fun q => h1 (Or.inl ⟨g, q⟩), fun q => h22 (by omega)⟩, fun g => h22 (by omega)⟩
theorem s7_isProved {n f t : Nat} {L : List ZT} {post : Int32 → Prop} (hn : n ≤ 60) (hf : f ≤ 60) (ht : t ≤ 60) (hL : L.length ≤ 1000) (h1 : (L = [] ∨ (f = 0 ∧ t = n)) → post 1) (h0 : ¬ (L = [] ∨ (f = 0 ∧ t = n)) → post 0) : wX7_isProved (nI n) (nI f) (y_to t) (nI L.length) post := by
  unfold wX7_isProved wX7_isProved_27
  have e : nI n - 1 = y_to n := rfl
  rw [e]
  simp (disch := omega) only [y_to_eq]
  simp (disch := omega) only [q32, q64, nI_add, nI_ltI, nI_leI, nI_eq, nI_clamp, vp_in_nI, lN_add, lN_mul, pk_lLT, pk_lLE, pk_lEQ, nI_l, lN_i, nI_sub, nI_an, lN_sub, lN_an, Nat.add_sub_cancel, and_true, true_and, List.length_eq_zero_iff]
  exact ⟨fun g => h1 (Or.inl g), fun g => ⟨fun q => ⟨fun r => h1 (Or.inr ⟨q, r⟩), fun r => h0 (fun z => z.elim g (fun y => r y.2))⟩, fun q => h0 (fun z => z.elim g (fun y => q y.1))⟩⟩
theorem s7_downwards {post : Int64 → Prop} {v0 : Int64} {d : Nat} (h0 : 0 < d) (hd : d < 2 ^ 31) (hk : ∀ r : Int64, r.toInt = v0.toInt / (d : Int) → post r) : wX7_downwards post v0 (lN d) := by
  have hdI : (lN d).toInt = (d : Int) := pk_lT (by omega)
  have hq : (v0 / lN d).toInt = v0.toInt.tdiv (d : Int) := by
    rw [Jvm.Kit.i64_div, hdI]
    rw [hdI]; omega
  have hr : (v0 - v0 / lN d * lN d).toInt = v0.toInt.tmod (d : Int) := by rw [Jvm.Kit.i64_rem, hdI]
  unfold wX7_downwards
  have hne : ¬ lN d = 0 := by
    rw [← Int64.toInt_inj, hdI]; show ¬ (d : Int) = 0; omega
  have hz : (0 : Int64).toInt = 0 := rfl
  rw [Int64.le_iff_toInt_le, hr, hz]
  refine ⟨hne, hne, fun h => hk _ ?_, fun h => hk _ ?_⟩
  · rw [hq]
    by_cases g : 0 ≤ v0.toInt
    · exact Int.tdiv_eq_ediv_of_nonneg g
    · rw [Int.tdiv_eq_ediv, if_pos, Int.add_zero]
      refine Or.inr (Int.dvd_of_tmod_eq_zero ?_)
      have h3 : (-v0.toInt).tmod (d : Int) = -(v0.toInt.tmod (d : Int)) := Int.neg_tmod _ _
      have h4 := Int.tmod_nonneg (d : Int) (show 0 ≤ -v0.toInt by omega)
      omega
  · have g : ¬ 0 ≤ v0.toInt := fun z => h (Int.tmod_nonneg _ z)
    have hnd : ¬ (d : Int) ∣ v0.toInt := fun z => h (by rw [Int.tmod_eq_zero_of_dvd z]; exact Int.le_refl _)
    have hq1 : v0.toInt.tdiv (d : Int) = v0.toInt / (d : Int) + 1 := by
      rw [Int.tdiv_eq_ediv, if_neg (fun z => z.elim g hnd), Int.sign_eq_one_of_pos (by omega)]
    have b1 : v0.toInt / (d : Int) ≤ 0 := Int.ediv_nonpos_of_nonpos_of_neg (by omega) (by omega)
    have b3 : -2 ^ 63 ≤ v0.toInt := Int64.le_toInt v0
    have b2 : -2 ^ 63 ≤ v0.toInt / (d : Int) := by
      refine Int.le_ediv_of_mul_le (by omega) ?_
      have : (-2 ^ 63 : Int) * (d : Int) ≤ -2 ^ 63 * 1 := Int.mul_le_mul_of_nonpos_left (by omega) (by omega)
      omega
    rw [Jvm.Kit.i64_sub, hq, hq1]
    · show v0.toInt / (d : Int) + 1 - 1 = _; omega
    · rw [hq, hq1]; show -2 ^ 63 ≤ v0.toInt / (d : Int) + 1 - 1; omega
    · rw [hq, hq1]; show v0.toInt / (d : Int) + 1 - 1 < 2 ^ 63; omega
theorem z_bd_lt {n : Nat} {w p : Nat → Nat} {R f t : Nat} {s : ZT} (hb : y_bd n w p) (hR : R < 2 ^ 31) (hs : s.1 < 2 ^ 31 ∧ s.2.1 < 2 ^ 31) (ht : t ≤ n) (hf : f ≤ n) (h : s.1 ≤ R ∨ 0 < f) :
    -2 ^ 62 ≤ ((R : Int) - (s.1 : Int)) * (p (f - 1) : Int) ∨ s.1 ≤ R := by
  by_cases g : s.1 ≤ R
  · exact Or.inr g
  · refine Or.inl ?_
    have hp := (hb.lt (show f - 1 < n by omega)).2
    have h1 : ((s.1 : Int) - (R : Int)) * (p (f - 1) : Int) ≤ 2 ^ 31 * 2 ^ 31 := Int.mul_le_mul (by omega) (by omega) (by omega) (by omega)
    have h2 : ((R : Int) - (s.1 : Int)) * (p (f - 1) : Int) = -(((s.1 : Int) - (R : Int)) * (p (f - 1) : Int)) := by
      rw [← Int.neg_mul]; congr 1; omega
    rw [h2]; omega
theorem s7_boundOf {n : Nat} {w p : Nat → Nat} {R f t : Nat} {s : ZT} {t_w t_p t_setWeight t_setProfit : Nat → Int64} {post : Int64 → Prop} (hb : y_bd n w p) (hwp : y_wp n w p t_w t_p) {i : Nat} (e1 : t_setWeight i = lN s.1) (e2 : t_setProfit i = lN s.2.1) (hl : i < 2000) (hR : R < 2 ^ 31)
    (hs : s.1 < 2 ^ 31 ∧ s.2.1 < 2 ^ 31) (ht : t ≤ n) (hf : f ≤ n) (hst : s.1 ≤ R ∨ 0 < f) (hk : ∀ r : Int64, r.toInt = z_bd n w p R f t s → post r) :
    wX7_boundOf (nI n) (lN R) (nI f) (y_to t) t_setWeight t_setProfit t_p t_w post (nI i) := by
  have hn := hb.1
  obtain ⟨s1, s2⟩ := hs
  unfold wX7_boundOf
  simp (disch := omega) only [q32, q64, nI_add, nI_ltI, nI_leI, nI_eq, nI_clamp, vp_in_nI, lN_add, lN_mul, pk_lLT, pk_lLE, pk_lEQ, nI_l, lN_i, nI_sub, nI_an, lN_sub, lN_an, Nat.add_sub_cancel, and_true, true_and, e1, e2, y_to_1]
  refine ⟨fun h => ⟨fun g => by omega, fun g => ?_⟩, fun h => ⟨fun g => hk _ ?_, fun g => ?_⟩⟩
  · obtain ⟨w1, p1⟩ := hwp (f - 1) (by omega)
    have hl1 := hb.lt (show f - 1 < n by omega)
    have hw1 := (hb.2.1 (f - 1) (by omega)).1
    simp (disch := omega) only [q32, q64, nI_add, nI_ltI, nI_leI, nI_eq, nI_clamp, vp_in_nI, lN_add, lN_mul, pk_lLT, pk_lLE, pk_lEQ, nI_l, lN_i, nI_sub, nI_an, lN_sub, lN_an, Nat.add_sub_cancel, and_true, true_and, w1, p1]
    have hm := (z_bd_lt (t := t) hb hR ⟨s1, s2⟩ ht hf hst).resolve_right (by omega)
    have hsub : (lN R - lN s.1).toInt = (R : Int) - (s.1 : Int) := by
      rw [Jvm.Kit.i64_sub, pk_lT (by omega), pk_lT (by omega)] <;> rw [pk_lT (by omega), pk_lT (by omega)] <;> omega
    have hneg : ((R : Int) - (s.1 : Int)) * (p (f - 1) : Int) ≤ 0 := Int.mul_nonpos_of_nonpos_of_nonneg (by omega) (by omega)
    have hmul : ((lN R - lN s.1) * lN (p (f - 1))).toInt = ((R : Int) - (s.1 : Int)) * (p (f - 1) : Int) := by
      rw [Jvm.Kit.i64_mul, hsub, pk_lT (by omega)] <;> rw [hsub, pk_lT (by omega)] <;> omega
    refine s7_downwards (by omega) hl1.1 (fun r hr => hk _ ?_)
    rw [hmul] at hr
    have b1 : ((R : Int) - (s.1 : Int)) * (p (f - 1) : Int) / (w (f - 1) : Int) ≤ 0 := Int.ediv_nonpos_of_nonpos_of_neg hneg (by omega)
    have b2 : -2 ^ 62 ≤ ((R : Int) - (s.1 : Int)) * (p (f - 1) : Int) / (w (f - 1) : Int) := by
      refine Int.le_ediv_of_mul_le (by omega) ?_
      have : (-2 ^ 62 : Int) * (w (f - 1) : Int) ≤ -2 ^ 62 * 1 := Int.mul_le_mul_of_nonpos_left (by omega) (by omega)
      omega
    rw [Jvm.Kit.i64_add, hr, pk_lT (by omega)]
    · unfold z_bd
      rw [if_neg (by omega)]
    · rw [hr, pk_lT (by omega)]; omega
    · rw [hr, pk_lT (by omega)]; omega
  · rw [pk_lT (by omega)]
    unfold z_bd
    rw [if_pos (by omega), if_neg (by omega)]
    simp
  · obtain ⟨w1, p1⟩ := hwp t (by omega)
    have hl1 := hb.lt (show t < n by omega)
    have hw1 := (hb.2.1 t (by omega)).1
    have hm : (R - s.1) * p t < 2 ^ 62 := z_mul_lt (by omega) hl1.2
    have hd : (R - s.1) * p t / w t ≤ (R - s.1) * p t := Nat.div_le_self _ _
    simp (disch := omega) only [q32, q64, nI_add, nI_ltI, nI_leI, nI_eq, nI_clamp, vp_in_nI, lN_add, lN_mul, pk_lLT, pk_lLE, pk_lEQ, nI_l, lN_i, nI_sub, nI_an, lN_sub, lN_an, Nat.add_sub_cancel, and_true, true_and, w1, p1, pk_lDiv]
    refine ⟨by omega, hk _ ?_⟩
    rw [pk_lT (by omega)]
    unfold z_bd
    rw [if_pos (by omega), if_pos (by omega)]
    omega
/-- 'goes' behind the merge: the best, and what is bounded away -/
theorem s7_goes_216 {n : Nat} {w p : Nat → Nat} {R f t : Nat} {L : List ZT} {b : ZT} {t_w t_p t_nextProfit t_nextWeight t_nextBits : Nat → Int64} {t_all : Nat → Int32} {t_made t_nexts : Int32} (hb : y_bd n w p) (hwp : y_wp n w p t_w t_p) (hR : R < 2 ^ 31) (ht : t ≤ n) (hf : f ≤ n) (hl : L.length ≤ 2000)
    (hs : ∀ s ∈ L, s.1 < 2 ^ 31 ∧ s.2.1 < 2 ^ 31) (hbp : b.2.1 < 2 ^ 31)
    {post : Int32 → Int32 → Int32 → Int32 → Int32 → Int64 → Int64 → Int64 → Int32 → (Nat → Int64) → (Nat → Int64) → (Nat → Int64) → (Nat → Int64) → (Nat → Int64) → (Nat → Int64) → Prop}
    (hk : ∀ sw sb sp : Nat → Int64, y_set (L.filter (z_stay n w p R f t b)) sw sp sb → post 1 (nI f) (y_to t) t_made (nI (L.filter (z_stay n w p R f t b)).length) (lN b.2.2) (lN b.1) (lN b.2.1) t_nexts sw sb sp t_nextProfit t_nextWeight t_nextBits) :
    ∀ (r k : Nat) (Q : List ZT) (sw sb sp : Nat → Int64), k + r = L.length → Q.length ≤ k → Q ++ (L.drop k).filter (z_stay n w p R f t b) = L.filter (z_stay n w p R f t b) → y_set Q sw sp sb →
      (∀ i (h : i < L.length), k ≤ i → sw i = lN (L[i]).1 ∧ sp i = lN (L[i]).2.1 ∧ sb i = lN (L[i]).2.2) →
      wX7_goes_216 (nI n) (lN R) t_w t_p t_all post (r + 1) (nI f) (y_to t) t_made (nI L.length) (lN b.2.2) (lN b.1) (lN b.2.1) t_nexts sw sb sp t_nextProfit t_nextWeight t_nextBits (nI Q.length) (nI k) := by
  have hn := hb.1
  intro r
  induction r with
  | zero =>
    intro k Q sw sb sp hkr hQ hF hy hrest
    rw [wX7_goes_216]
    unfold wX7_goes_216_b
    simp (disch := omega) only [q32, q64, nI_add, nI_ltI, nI_leI, nI_eq, nI_clamp, vp_in_nI, lN_add, lN_mul, pk_lLT, pk_lLE, pk_lEQ, nI_l, lN_i, nI_sub, nI_an, lN_sub, lN_an, Nat.add_sub_cancel, and_true, true_and]
    refine ⟨fun _ => ?_, fun h => by omega⟩
    rw [List.drop_eq_nil_of_le (by omega), List.filter_nil, List.append_nil] at hF
    have := hk sw sb sp (hF ▸ hy)
    rw [← hF] at this
    exact this
  | succ r ih =>
    intro k Q sw sb sp hkr hQ hF hy hrest
    have hkL : k < L.length := by omega
    obtain ⟨e1, e2, e3⟩ := hrest k hkL (Nat.le_refl _)
    obtain ⟨s1, s2⟩ := hs _ (List.getElem_mem hkL)
    have dk : L.drop k = L[k] :: L.drop (k + 1) := List.drop_eq_getElem_cons hkL
    have hupd : ∀ i (h : i < L.length), k + 1 ≤ i → vp_updL sw Q.length (lN (L[k]).1) i = lN (L[i]).1 ∧ vp_updL sp Q.length (lN (L[k]).2.1) i = lN (L[i]).2.1 ∧ vp_updL sb Q.length (lN (L[k]).2.2) i = lN (L[i]).2.2 := fun i h hi => by
      rw [pk_uLn (by omega), pk_uLn (by omega), pk_uLn (by omega)]
      exact hrest i h (by omega)
    have drop : z_stay n w p R f t b L[k] = false → wX7_goes_265 (nI n) (lN R) t_w t_p t_all (wX7_goes_216 (nI n) (lN R) t_w t_p t_all post (r + 1)) post (nI f) (y_to t) t_made (nI L.length) (lN b.2.2) (lN b.1) (lN b.2.1) t_nexts sw sb sp t_nextProfit t_nextWeight t_nextBits (nI Q.length) (nI k) := fun hst => by
      unfold wX7_goes_265 wX7_goes_266 wX7_goes_318
      simp (disch := omega) only [q32, q64, nI_add, nI_ltI, nI_leI, nI_eq, nI_clamp, vp_in_nI, lN_add, lN_mul, pk_lLT, pk_lLE, pk_lEQ, nI_l, lN_i, nI_sub, nI_an, lN_sub, lN_an, Nat.add_sub_cancel, and_true, true_and, e1, e2, e3]
      refine ⟨fun _ => ?_, fun z => absurd trivial z⟩
      refine ih (k + 1) Q _ _ _ (by omega) (by omega) ?_ (fun i hi => ?_) hupd
      · rw [← hF, dk, List.filter_cons_of_neg (by rw [hst]; decide)]
      · rw [pk_uLn (by omega), pk_uLn (by omega), pk_uLn (by omega)]; exact hy i hi
    have keep : z_stay n w p R f t b L[k] = true → wX7_goes_266 (nI n) (lN R) t_w t_p t_all (wX7_goes_216 (nI n) (lN R) t_w t_p t_all post (r + 1)) post (nI f) (y_to t) t_made (nI L.length) (lN b.2.2) (lN b.1) (lN b.2.1) t_nexts sw sb sp t_nextProfit t_nextWeight t_nextBits (nI Q.length) (nI k) 1 := fun hst => by
      unfold wX7_goes_266 wX7_goes_318
      simp (disch := omega) only [q32, q64, nI_add, nI_ltI, nI_leI, nI_eq, nI_clamp, vp_in_nI, lN_add, lN_mul, pk_lLT, pk_lLE, pk_lEQ, nI_l, lN_i, nI_sub, nI_an, lN_sub, lN_an, Nat.add_sub_cancel, and_true, true_and, e1, e2, e3]
      refine ⟨fun z => by omega, fun _ => ?_⟩
      have hlen : Q.length + 1 = (Q ++ [L[k]]).length := by simp
      rw [hlen]
      refine ih (k + 1) (Q ++ [L[k]]) _ _ _ (by omega) (by simp; omega) ?_ (fun i hi => ?_) hupd
      · rw [← hF, dk, List.filter_cons_of_pos hst, List.append_assoc, List.singleton_append]
      · by_cases e : i = Q.length
        · subst e
          rw [pk_uLs, pk_uLs, pk_uLs]
          simp
        · have hi' : i < Q.length := by simp at hi; omega
          rw [pk_uLn e, pk_uLn e, pk_uLn e, List.getElem_append_left hi']
          exact hy i hi'
    have ask : ((L[k]).1 ≤ R ∨ 0 < f) → wX7_goes_247 (nI n) (lN R) t_w t_p t_all (wX7_goes_216 (nI n) (lN R) t_w t_p t_all post (r + 1)) post (nI f) (y_to t) t_made (nI L.length) (lN b.2.2) (lN b.1) (lN b.2.1) t_nexts sw sb sp t_nextProfit t_nextWeight t_nextBits (nI Q.length) (nI k) := fun hst => by
      unfold wX7_goes_247
      have hq : ∀ r0 : Int64, r0.toInt = z_bd n w p R f t L[k] → wX7_goes_253 (nI n) (lN R) t_w t_p t_all (wX7_goes_216 (nI n) (lN R) t_w t_p t_all post (r + 1)) post (nI f) (y_to t) t_made (nI L.length) (lN b.2.2) (lN b.1) (lN b.2.1) t_nexts sw sb sp t_nextProfit t_nextWeight t_nextBits (nI Q.length) (nI k) r0 := fun r0 hr0 => by
        unfold wX7_goes_253
        rw [Int64.le_iff_toInt_le, hr0, pk_lT (by omega)]
        refine ⟨fun z => drop ?_, fun z => keep ?_⟩
        · unfold z_stay; rw [decide_eq_false_iff_not]; omega
        · unfold z_stay; rw [decide_eq_true_iff]; exact ⟨hst, by omega⟩
      exact s7_boundOf hb hwp e1 e2 (by omega) hR ⟨s1, s2⟩ ht hf hst hq
    rw [wX7_goes_216]
    unfold wX7_goes_216_b
    simp (disch := omega) only [q32, q64, nI_add, nI_ltI, nI_leI, nI_eq, nI_clamp, vp_in_nI, lN_add, lN_mul, pk_lLT, pk_lLE, pk_lEQ, nI_l, lN_i, nI_sub, nI_an, lN_sub, lN_an, Nat.add_sub_cancel, and_true, true_and, e1]
    refine ⟨fun h => by omega, fun _ => ⟨fun h => ask (Or.inl h), fun h => ⟨fun g => drop ?_, fun g => ask (Or.inr (by omega))⟩⟩⟩
    unfold z_stay; rw [decide_eq_false_iff_not]; omega
