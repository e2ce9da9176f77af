/-! the class: bounds, a step -/
theorem z_xor_sign (a b : Int64) (hb : 0 ≤ b.toInt) : 0 ≤ a ^^^ b ↔ 0 ≤ a.toInt := by
  rw [Int64.le_iff_toInt_le]
  show 0 ≤ (a ^^^ b).toBitVec.toInt ↔ 0 ≤ a.toBitVec.toInt
  have hb' : 0 ≤ b.toBitVec.toInt := hb
  have h1 : (a ^^^ b).toBitVec.msb = decide ((a ^^^ b).toBitVec.toInt < 0) := BitVec.msb_eq_toInt
  have h2 : a.toBitVec.msb = decide (a.toBitVec.toInt < 0) := BitVec.msb_eq_toInt
  have h3 : b.toBitVec.msb = decide (b.toBitVec.toInt < 0) := BitVec.msb_eq_toInt
  rw [Int64.toBitVec_xor, BitVec.msb_xor, h2, h3, decide_eq_false (show ¬ b.toBitVec.toInt < 0 by omega), Bool.xor_false] at h1
  rw [Int64.toBitVec_xor]
  have h4 := decide_eq_decide.mp h1
  omega
theorem s9_floorDiv {post : Int64 → Prop} {v0 : Int64} {d : Nat} (h0 : 0 < d) (hd : d < 2 ^ 31) (hk : ∀ r : Int64, r.toInt = v0.toInt / (d : Int) → post r) : wJ9_floorDiv_f86c9 post v0 (lN d) := by
  have hdI : (lN d).toInt = (d : Int) := pk_lT (by omega)
  have hq : (v0 / lN d).toInt = v0.toInt.tdiv (d : Int) := by
    rw [Jvm.Kit.i64_div, hdI]
    rw [hdI]; omega
  have hr : (v0 - v0 / lN d * lN d).toInt = v0.toInt.tmod (d : Int) := by rw [Jvm.Kit.i64_rem, hdI]
  have hne : ¬ lN d = 0 := by
    rw [← Int64.toInt_inj, hdI]; show ¬ (d : Int) = 0; omega
  have hz : v0 / lN d * lN d = v0 ↔ v0.toInt.tmod (d : Int) = 0 := by
    rw [← hr]
    constructor
    · intro h; rw [h, Int64.sub_self]; rfl
    · intro h
      have h2 : v0 - v0 / lN d * lN d = 0 := Int64.toInt_inj.mp h
      have h3 := congrArg (· + v0 / lN d * lN d) h2
      simp only [Int64.sub_add_cancel, Int64.zero_add] at h3
      exact h3.symm
  unfold wJ9_floorDiv_f86c9
  rw [z_xor_sign _ _ (by rw [hdI]; omega), hz]
  refine ⟨hne, fun h => hk _ ?_, fun h => ⟨fun g => hk _ ?_, fun g => hk _ ?_⟩⟩
  · rw [hq]; exact Int.tdiv_eq_ediv_of_nonneg h
  · rw [hq, Int.tdiv_eq_ediv, if_pos (Or.inr (Int.dvd_of_tmod_eq_zero g)), Int.add_zero]
  · have hnd : ¬ (d : Int) ∣ v0.toInt := fun z => g (Int.tmod_eq_zero_of_dvd z)
    have hq1 : v0.toInt.tdiv (d : Int) = v0.toInt / (d : Int) + 1 := by
      rw [Int.tdiv_eq_ediv, if_neg (fun z => z.elim h hnd), Int.sign_eq_one_of_pos (by omega)]
    have b1 : v0.toInt / (d : Int) ≤ 0 := Int.ediv_nonpos_of_nonpos_of_neg (by omega) (by omega)
    have b3 : -2 ^ 63 ≤ v0.toInt := Int64.le_toInt v0
    have b2 : -2 ^ 63 ≤ v0.toInt / (d : Int) := by
      refine Int.le_ediv_of_mul_le (by omega) ?_
      have : (-2 ^ 63 : Int) * (d : Int) ≤ -2 ^ 63 * 1 := Int.mul_le_mul_of_nonpos_left (by omega) (by omega)
      omega
    rw [Jvm.Kit.i64_sub, hq, hq1]
    · show v0.toInt / (d : Int) + 1 - 1 = _; omega
    · rw [hq, hq1]; show -2 ^ 63 ≤ v0.toInt / (d : Int) + 1 - 1; omega
    · rw [hq, hq1]; show v0.toInt / (d : Int) + 1 - 1 < 2 ^ 63; omega
/-- what an amount of room is worth at a place -/
theorem s2_worthDown {n : Nat} {w p : Nat → Nat} {t_weights t_profits : Nat → Int32} (hb : y_bd n w p) (hwp : x_wp n w p t_weights t_profits) {k : Nat} (hk0 : k ≤ 60) {v2 : Int64} (hv : -2 ^ 32 ≤ v2.toInt ∧ v2.toInt ≤ 2 ^ 32) {post : Int64 → Prop}
    (h1 : k < n → ∀ r : Int64, r.toInt = v2.toInt * (p k : Int) / (w k : Int) → post r) (h0 : n ≤ k → post 0) : wX2_worthDown (nI n) t_weights t_profits post (nI k) v2 := by
  have hn := hb.1
  unfold wX2_worthDown
  by_cases h : k < n
  · obtain ⟨w1, p1⟩ := hwp k h
    have l1 := hb.lt h
    have g1 := (hb.2.1 k h).1
    simp (disch := omega) only [q32, q64, nI_add, nI_ltI, nI_leI, nI_eq, nI_clamp, vp_in_nI, lN_add, lN_mul, pk_lLT, pk_lLE, pk_lEQ, nI_l, lN_i, nI_sub, nI_an, lN_sub, lN_an, Nat.add_sub_cancel, and_true, true_and, w1, p1]
    refine ⟨fun z => by omega, fun _ => ⟨fun z => by omega, fun _ => ⟨fun _ => ?_, fun z => by omega⟩⟩⟩
    have hm1 : v2.toInt * (p k : Int) ≤ 2 ^ 32 * (2 ^ 31 - 1) := by
      rcases Int.le_total 0 v2.toInt with h2 | h2
      · exact Int.mul_le_mul hv.2 (by omega) (by omega) (by omega)
      · have := Int.mul_nonpos_of_nonpos_of_nonneg h2 (show (0 : Int) ≤ (p k : Int) by omega)
        omega
    have hm2 : -(2 ^ 32 * (2 ^ 31 - 1)) ≤ v2.toInt * (p k : Int) := by
      rcases Int.le_total 0 v2.toInt with h2 | h2
      · have := Int.mul_nonneg h2 (show (0 : Int) ≤ (p k : Int) by omega)
        omega
      · have h3 : (-v2.toInt) * (p k : Int) ≤ 2 ^ 32 * (2 ^ 31 - 1) := Int.mul_le_mul (by omega) (by omega) (by omega) (by omega)
        rw [Int.neg_mul] at h3
        omega
    refine s9_floorDiv (by omega) l1.1 (fun r hr => h1 h r ?_)
    rw [hr, Jvm.Kit.i64_mul, pk_lT (by omega)]
    · rw [pk_lT (by omega)]; omega
    · rw [pk_lT (by omega)]; omega
  · simp (disch := omega) only [q32, q64, nI_add, nI_ltI, nI_leI, nI_eq, nI_clamp, vp_in_nI, lN_add, lN_mul, pk_lLT, pk_lLE, pk_lEQ, nI_l, lN_i, nI_sub, nI_an, lN_sub, lN_an, Nat.add_sub_cancel, and_true, true_and]
    exact ⟨fun z => by omega, fun _ => ⟨fun _ => h0 (by omega), fun z => by omega⟩⟩
theorem s0_boundOf {n : Nat} {w p : Nat → Nat} {R f t cap : Nat} {s : ZT} {t_ranked_weights t_ranked_profits t_sets_weights t_sets_profits : Nat → Int32} {post : Int64 → Prop} (hb : y_bd n w p) (hwp : x_wp n w p t_ranked_weights t_ranked_profits) {i : Nat} (e1 : t_sets_weights i = nI s.1) (e2 : t_sets_profits i = nI s.2.1) (hi : i < cap) (hcap : cap ≤ 2048) (hR : R < 2 ^ 31)
    (hs : s.1 < 2 ^ 31 ∧ s.2.1 < 2 ^ 31) (ht : t ≤ n) (hf : f ≤ n) (hk : (s.1 ≤ R ∨ 0 < f) → ∀ r : Int64, r.toInt = z_bd n w p R f t s → post r) (h0 : ¬ (s.1 ≤ R ∨ 0 < f) → post (-1)) :
    wX0_boundOf (nI f) (y_to t) (nI n) (nI R) t_sets_weights cap t_sets_profits cap t_ranked_weights t_ranked_profits post (nI i) := by
  have hn := hb.1
  obtain ⟨s1, s2⟩ := hs
  have hsub : (lN R - lN s.1).toInt = (R : Int) - (s.1 : Int) := by
    rw [Jvm.Kit.i64_sub, pk_lT (by omega), pk_lT (by omega)] <;> rw [pk_lT (by omega), pk_lT (by omega)] <;> omega
  have hle : (0 : Int64) ≤ lN R - lN s.1 ↔ s.1 ≤ R := by
    rw [Int64.le_iff_toInt_le, hsub]
    show (0 : Int) ≤ _ ↔ _
    omega
  unfold wX0_boundOf
  rw [nI_clamp (by omega), e1, nI_l hR, nI_l s1, hle]
  refine ⟨vp_in_nI (by omega) (by omega), fun h => ?_, fun h => ⟨fun g => ?_, fun g => ?_⟩⟩
  · unfold wX0_boundOf_38
    rw [nI_clamp (by omega), e2, nI_l s2, hle, show y_to t + 1 = nI t from y_to_1 t]
    refine ⟨vp_in_nI (by omega) (by omega), fun _ => ?_, fun z => absurd h z⟩
    unfold wX0_boundOf_73
    refine s2_worthDown hb hwp (by omega) (by rw [hsub]; omega) (fun q r hr => hk (Or.inl h) _ ?_) (fun q => hk (Or.inl h) _ ?_)
    · have l1 := hb.lt q
      have g1 := (hb.2.1 t q).1
      have e3 : (R : Int) - (s.1 : Int) = ((R - s.1 : Nat) : Int) := by omega
      rw [hsub, e3] at hr
      have hm : (R - s.1) * p t < 2 ^ 62 := z_mul_lt (by omega) l1.2
      have hd : (R - s.1) * p t / w t ≤ (R - s.1) * p t := Nat.div_le_self _ _
      have hr' : r.toInt = (((R - s.1) * p t / w t : Nat) : Int) := by rw [hr]; norm_cast
      have hz : z_bd n w p R f t s = (s.2.1 : Int) + (((R - s.1) * p t / w t : Nat) : Int) := by unfold z_bd; rw [if_pos h, if_pos q]
      rw [hz]
      generalize (R - s.1) * p t / w t = u at *
      rw [Jvm.Kit.i64_add, hr', pk_lT (by omega)]
      · rw [hr', pk_lT (by omega)]; omega
      · rw [hr', pk_lT (by omega)]; omega
    · rw [show lN s.2.1 + 0 = lN s.2.1 from Int64.add_zero _, pk_lT (by omega)]
      unfold z_bd; rw [if_pos h, if_neg (by omega)]; simp
  · have hf1 : 0 < f := by
      rw [show (1 : Int32) = nI 1 from rfl, nI_leI (by omega) (by omega)] at g; omega
    unfold wX0_boundOf_38
    rw [nI_clamp (by omega), e2, nI_l s2, hle, show nI f - 1 = nI (f - 1) from nI_sub (b := 1) (by omega)]
    refine ⟨vp_in_nI (by omega) (by omega), fun z => absurd z h, fun _ => ?_⟩
    unfold wX0_boundOf_73
    refine s2_worthDown hb hwp (by omega) (by rw [hsub]; omega) (fun q r hr => hk (Or.inr hf1) _ ?_) (fun q => by omega)
    rw [hsub] at hr
    have hm := (z_bd_lt (t := t) hb hR ⟨s1, s2⟩ ht hf (Or.inr hf1)).resolve_right h
    have g1 := (hb.2.1 (f - 1) q).1
    have hneg : ((R : Int) - (s.1 : Int)) * (p (f - 1) : Int) ≤ 0 := Int.mul_nonpos_of_nonpos_of_nonneg (by omega) (by omega)
    have b1 : ((R : Int) - (s.1 : Int)) * (p (f - 1) : Int) / (w (f - 1) : Int) ≤ 0 := Int.ediv_nonpos_of_nonpos_of_neg hneg (by omega)
    have b2 : -2 ^ 62 ≤ ((R : Int) - (s.1 : Int)) * (p (f - 1) : Int) / (w (f - 1) : Int) := by
      refine Int.le_ediv_of_mul_le (by omega) ?_
      have : (-2 ^ 62 : Int) * (w (f - 1) : Int) ≤ -2 ^ 62 * 1 := Int.mul_le_mul_of_nonpos_left (by omega) (by omega)
      omega
    rw [Jvm.Kit.i64_add, hr, pk_lT (by omega)]
    · unfold z_bd; rw [if_neg h]
    · rw [hr, pk_lT (by omega)]; omega
    · rw [hr, pk_lT (by omega)]; omega
  · refine h0 (fun z => z.elim h (fun y => ?_))
    rw [show (1 : Int32) = nI 1 from rfl, nI_leI (by omega) (by omega)] at g
    omega
/-- how many fit -/
def z_cf (R : Nat) : List ZT → Nat
  | [] => 0
  | s :: L => if s.1 ≤ R then z_cf R L + 1 else 0
theorem z_cf_le {R : Nat} : ∀ {L : List ZT}, z_cf R L ≤ L.length
  | [] => Nat.le_refl _
  | s :: L => by
    have := z_cf_le (R := R) (L := L)
    unfold z_cf
    split <;> simp only [List.length_cons] <;> omega
theorem z_fit_last {R : Nat} : ∀ {L : List ZT} {b : ZT}, z_inc L → (z_cf R L = 0 → z_fit R L b = b) ∧ (∀ (k : Nat) (h : k < L.length), z_cf R L = k + 1 → z_fit R L b = (if b.2.1 < (L[k]).2.1 then L[k] else b))
  | [], b, _ => ⟨fun _ => rfl, fun k h => by simp at h⟩
  | s :: L, b, hi => by
    have ih := fun b => z_fit_last (R := R) (L := L) (b := b) (z_inc_tl hi)
    have hall := (List.pairwise_cons.mp hi).1
    unfold z_cf z_fit
    by_cases hs : s.1 ≤ R
    · rw [if_pos hs]
      refine ⟨fun z => by omega, fun k h hk => ?_⟩
      cases k with
      | zero =>
        rw [(ih _).1 (by omega)]
        show (if s.1 ≤ R ∧ b.2.1 < s.2.1 then s else b) = (if b.2.1 < s.2.1 then s else b)
        by_cases q : b.2.1 < s.2.1
        · rw [if_pos ⟨hs, q⟩, if_pos q]
        · rw [if_neg (fun z => q z.2), if_neg q]
      | succ k =>
        have hlt : k < L.length := by simp only [List.length_cons] at h; omega
        rw [(ih _).2 k hlt (by omega)]
        simp only [List.getElem_cons_succ]
        have hp := (hall _ (List.getElem_mem hlt)).2
        by_cases q : b.2.1 < s.2.1
        · have e9 : (if s.1 ≤ R ∧ b.2.1 < s.2.1 then s else b) = s := if_pos ⟨hs, q⟩
          rw [e9, if_pos hp, if_pos (by omega)]
        · have e9 : (if s.1 ≤ R ∧ b.2.1 < s.2.1 then s else b) = b := if_neg (fun z => q z.2)
          rw [e9]
    · rw [if_neg hs]
      refine ⟨fun _ => ?_, fun k h z => by omega⟩
      rw [if_neg (fun z => hs z.1)]
      exact z_fit_inc (z_inc_tl hi) (fun x hx => by have := (hall x hx).1; omega)
theorem s0_countFitting {L : List ZT} {R cap : Nat} {t_sets_weights : Nat → Int32} (hL : ∀ i (h : i < L.length), t_sets_weights i = nI (L[i]).1) (hs : ∀ s ∈ L, s.1 < 2 ^ 31) (hlen : L.length ≤ cap) (hcap : cap ≤ 2048) (hR : R < 2 ^ 31) {post : Int32 → Prop} (hk : post (nI (z_cf R L))) :
    wX0_countFitting (nI L.length) (nI R) t_sets_weights cap post := by
  have main : ∀ (r k : Nat), k + r = L.length → k + z_cf R (L.drop k) = z_cf R L → wX0_countFitting_2 (nI L.length) (nI R) t_sets_weights cap post (r + 1) (nI k) := by
    intro r
    induction r with
    | zero =>
      intro k hkr hF
      rw [wX0_countFitting_2]
      unfold wX0_countFitting_2_b
      simp (disch := omega) only [q32, q64, nI_add, nI_ltI, nI_leI, nI_eq, nI_clamp, vp_in_nI, lN_add, lN_mul, pk_lLT, pk_lLE, pk_lEQ, nI_l, lN_i, nI_sub, nI_an, lN_sub, lN_an, Nat.add_sub_cancel, and_true, true_and]
      rw [List.drop_eq_nil_of_le (by omega), z_cf, Nat.add_zero] at hF
      rw [hF]
      have : L.length ≤ z_cf R L := by omega
      exact ⟨fun _ => hk, fun h => absurd this h⟩
    | succ r ih =>
      intro k hkr hF
      have hkL : k < L.length := by omega
      have hsk := hs _ (List.getElem_mem hkL)
      rw [List.drop_eq_getElem_cons hkL, z_cf] at hF
      rw [wX0_countFitting_2]
      unfold wX0_countFitting_2_b
      simp (disch := omega) only [q32, q64, nI_add, nI_ltI, nI_leI, nI_eq, nI_clamp, vp_in_nI, lN_add, lN_mul, pk_lLT, pk_lLE, pk_lEQ, nI_l, lN_i, nI_sub, nI_an, lN_sub, lN_an, Nat.add_sub_cancel, and_true, true_and, hL k hkL]
      refine ⟨fun h => by omega, fun _ => ⟨fun h => ?_, fun h => ?_⟩⟩
      · rw [if_neg (by omega), Nat.add_zero] at hF
        rw [hF]; exact hk
      · rw [if_pos (by omega)] at hF
        exact ih (k + 1) (by omega) (by omega)
  unfold wX0_countFitting
  exact ⟨_, main L.length 0 (by omega) (by simp)⟩
theorem s0_findBest {L : List ZT} {b : ZT} {R cap : Nat} {t_sets_weights t_sets_profits : Nat → Int32} {t_sets_bits : Nat → Int64} (hL : x_set L t_sets_weights t_sets_profits t_sets_bits) (hi : z_inc L) (hs : ∀ s ∈ L, s.1 < 2 ^ 31 ∧ s.2.1 < 2 ^ 31) (hbp : b.2.1 < 2 ^ 31) (hlen : L.length ≤ cap) (hcap : cap ≤ 2048) (hR : R < 2 ^ 31)
    {post : Int32 → Int32 → Int64 → Prop} (hk : post (nI (z_fit R L b).1) (nI (z_fit R L b).2.1) (lN (z_fit R L b).2.2)) :
    wX0_findBest (nI L.length) (nI R) t_sets_weights cap t_sets_profits cap t_sets_bits cap post (nI b.1) (nI b.2.1) (lN b.2.2) := by
  have hle := z_cf_le (R := R) (L := L)
  unfold wX0_findBest
  refine s0_countFitting (fun i h => (hL i h).1) (fun s h => (hs s h).1) hlen hcap hR ?_
  unfold wX0_findBest_4
  obtain ⟨f0, f1⟩ := z_fit_last (R := R) (L := L) (b := b) hi
  rcases Nat.eq_zero_or_pos (z_cf R L) with h0 | h0
  · rw [h0]
    rw [f0 h0] at hk
    exact ⟨fun _ => hk, fun z => absurd (by decide) z⟩
  · have hlt : z_cf R L - 1 < L.length := by omega
    rw [f1 _ hlt (by omega)] at hk
    obtain ⟨e1, e2, e3⟩ := hL _ hlt
    have hsl := hs _ (List.getElem_mem hlt)
    simp (disch := omega) only [q32, q64, nI_add, nI_ltI, nI_leI, nI_eq, nI_clamp, vp_in_nI, lN_add, lN_mul, pk_lLT, pk_lLE, pk_lEQ, nI_l, lN_i, nI_sub, nI_an, lN_sub, lN_an, Nat.add_sub_cancel, and_true, true_and, e1, e2, e3]
    refine ⟨fun z => by omega, fun _ => ⟨fun z => ?_, fun z => ?_⟩⟩
    · rw [if_neg (by omega)] at hk; exact hk
    · rw [if_pos (by omega)] at hk; exact hk
theorem s0_dropBoundedAway {n : Nat} {w p : Nat → Nat} {R f t cap : Nat} {L : List ZT} {b : ZT} {t_ranked_weights t_ranked_profits t_sets_weights t_sets_profits : Nat → Int32} {t_sets_bits : Nat → Int64} (hb : y_bd n w p) (hwp : x_wp n w p t_ranked_weights t_ranked_profits) (hR : R < 2 ^ 31) (ht : t ≤ n) (hf : f ≤ n) (hlen : L.length ≤ cap) (hcap : cap ≤ 2048)
    (hs : ∀ s ∈ L, s.1 < 2 ^ 31 ∧ s.2.1 < 2 ^ 31) (hbp : b.2.1 < 2 ^ 31) (hL : x_set L t_sets_weights t_sets_profits t_sets_bits) {post : Int32 → (Nat → Int32) → (Nat → Int32) → (Nat → Int64) → Prop}
    (hk : ∀ (sw sp : Nat → Int32) (sb : Nat → Int64), x_set (L.filter (z_stay n w p R f t b)) sw sp sb → post (nI (L.filter (z_stay n w p R f t b)).length) sw sp sb) :
    wX0_dropBoundedAway (nI f) (y_to t) (nI b.2.1) (nI n) (nI R) cap cap t_ranked_weights t_ranked_profits cap post (nI L.length) t_sets_weights t_sets_profits t_sets_bits := by
  have hn := hb.1
  have main : ∀ (r k : Nat) (Q : List ZT) (sw sp : Nat → Int32) (sb : Nat → Int64), k + r = L.length → Q.length ≤ k → Q ++ (L.drop k).filter (z_stay n w p R f t b) = L.filter (z_stay n w p R f t b) → x_set Q sw sp sb →
      (∀ i (h : i < L.length), k ≤ i → sw i = nI (L[i]).1 ∧ sp i = nI (L[i]).2.1 ∧ sb i = lN (L[i]).2.2) →
      wX0_dropBoundedAway_4 (nI f) (y_to t) (nI b.2.1) (nI n) (nI R) cap cap t_ranked_weights t_ranked_profits cap post (r + 1) (nI L.length) sw sp sb (nI Q.length) (nI k) := by
    intro r
    induction r with
    | zero =>
      intro k Q sw sp sb hkr hQ hF hy hrest
      rw [wX0_dropBoundedAway_4]
      unfold wX0_dropBoundedAway_4_b
      simp (disch := omega) only [q32, q64, nI_add, nI_ltI, nI_leI, nI_eq, nI_clamp, vp_in_nI, lN_add, lN_mul, pk_lLT, pk_lLE, pk_lEQ, nI_l, lN_i, nI_sub, nI_an, lN_sub, lN_an, Nat.add_sub_cancel, and_true, true_and]
      refine ⟨fun _ => ?_, fun h => by omega⟩
      rw [List.drop_eq_nil_of_le (by omega), List.filter_nil, List.append_nil] at hF
      have := hk sw sp sb (hF ▸ hy)
      rw [← hF] at this
      exact this
    | succ r ih =>
      intro k Q sw sp sb hkr hQ hF hy hrest
      have hkL : k < L.length := by omega
      obtain ⟨e1, e2, e3⟩ := hrest k hkL (Nat.le_refl _)
      obtain ⟨s1, s2⟩ := hs _ (List.getElem_mem hkL)
      have dk : L.drop k = L[k] :: L.drop (k + 1) := List.drop_eq_getElem_cons hkL
      have drop : z_stay n w p R f t b L[k] = false → wX0_dropBoundedAway_41 (nI f) (y_to t) (nI b.2.1) (nI n) (nI R) cap cap t_ranked_weights t_ranked_profits cap (wX0_dropBoundedAway_4 (nI f) (y_to t) (nI b.2.1) (nI n) (nI R) cap cap t_ranked_weights t_ranked_profits cap post (r + 1)) post (nI L.length) sw sp sb (nI Q.length) (nI k) := fun hst => by
        unfold wX0_dropBoundedAway_41
        simp (disch := omega) only [q32, q64, nI_add, nI_ltI, nI_leI, nI_eq, nI_clamp, vp_in_nI, lN_add, lN_mul, pk_lLT, pk_lLE, pk_lEQ, nI_l, lN_i, nI_sub, nI_an, lN_sub, lN_an, Nat.add_sub_cancel, and_true, true_and]
        refine ih (k + 1) Q sw sp sb (by omega) (by omega) ?_ hy (fun i h hi => hrest i h (by omega))
        rw [← hF, dk, List.filter_cons_of_neg (by rw [hst]; decide)]
      have keep : z_stay n w p R f t b L[k] = true → wX4_move cap cap cap (fun m35_0 m35_1 m35_2 => wX0_dropBoundedAway_38 (nI f) (y_to t) (nI b.2.1) (nI n) (nI R) cap cap t_ranked_weights t_ranked_profits cap (wX0_dropBoundedAway_4 (nI f) (y_to t) (nI b.2.1) (nI n) (nI R) cap cap t_ranked_weights t_ranked_profits cap post (r + 1)) post (nI L.length) m35_0 m35_1 m35_2 (nI Q.length) (nI k)) sw sp sb (nI k) (nI Q.length) := fun hst => by
        unfold wX4_move wX0_dropBoundedAway_38 wX0_dropBoundedAway_41
        simp (disch := omega) only [q32, q64, nI_add, nI_ltI, nI_leI, nI_eq, nI_clamp, vp_in_nI, lN_add, lN_mul, pk_lLT, pk_lLE, pk_lEQ, nI_l, lN_i, nI_sub, nI_an, lN_sub, lN_an, Nat.add_sub_cancel, and_true, true_and, e1, e2, e3]
        have hlen2 : Q.length + 1 = (Q ++ [L[k]]).length := by simp
        rw [hlen2]
        refine ih (k + 1) (Q ++ [L[k]]) _ _ _ (by omega) (by simp; omega) ?_ (fun i hi => ?_) (fun i h hi => ?_)
        · rw [← hF, dk, List.filter_cons_of_pos hst, List.append_assoc, List.singleton_append]
        · by_cases e : i = Q.length
          · subst e
            rw [pk_us, pk_us, pk_uLs]
            simp
          · have hi' : i < Q.length := by simp at hi; omega
            rw [pk_un e, pk_un e, pk_uLn e, List.getElem_append_left hi']
            exact hy i hi'
        · rw [pk_un (by omega), pk_un (by omega), pk_uLn (by omega)]
          exact hrest i h (by omega)
      rw [wX0_dropBoundedAway_4]
      unfold wX0_dropBoundedAway_4_b
      simp (disch := omega) only [q32, q64, nI_add, nI_ltI, nI_leI, nI_eq, nI_clamp, vp_in_nI, lN_add, lN_mul, pk_lLT, pk_lLE, pk_lEQ, nI_l, lN_i, nI_sub, nI_an, lN_sub, lN_an, Nat.add_sub_cancel, and_true, true_and]
      refine ⟨fun h => by omega, fun _ => ?_⟩
      refine s0_boundOf hb hwp e1 e2 (by omega) hcap hR ⟨s1, s2⟩ ht hf (fun hst r0 hr0 => ?_) (fun hst => ?_)
      · unfold wX0_dropBoundedAway_20
        rw [nI_l hbp, Int64.le_iff_toInt_le, hr0, pk_lT (by omega)]
        refine ⟨fun z => drop ?_, fun z => keep ?_⟩
        · unfold z_stay; rw [decide_eq_false_iff_not]; omega
        · unfold z_stay; rw [decide_eq_true_iff]; exact ⟨hst, by omega⟩
      · unfold wX0_dropBoundedAway_20
        rw [nI_l hbp, Int64.le_iff_toInt_le, pk_lT (by omega)]
        refine ⟨fun z => drop ?_, fun z => absurd ?_ z⟩
        · unfold z_stay; rw [decide_eq_false_iff_not]; exact fun y => hst y.1
        · first | (show (-1 : Int) ≤ _; omega) | (rw [show ((-1 : Int64)).toInt = (-1 : Int) from by decide]; omega)
  unfold wX0_dropBoundedAway
  exact ⟨_, main L.length 0 [] _ _ _ (by omega) (Nat.le_refl _) (by simp) (fun i hi => by simp at hi) (fun i hi _ => hL i hi)⟩
