/-! the class: a step, the begin, all steps -/
/-- how long the two rows are behind a step -/
def z_wc (n : Nat) (w p : Nat → Nat) (M : Nat) (c : ZC) (q : Nat × Nat) : Nat × Nat :=
  if z_proved n c = true then q
  else if M < (z_new n w p c).length then (q.1, z_cp q.2 (min (z_new n w p c).length M))
  else (z_cp q.2 (min (z_new n w p c).length M), q.1)
/-- both rows are as long as rows can be -/
def z_q (q : Nat × Nat) (c : ZC) : Prop := z_pw q.1 ∧ z_pw q.2 ∧ c.2.2.2.1.length ≤ q.1
def z_sum (q : Nat × Nat) : Nat := q.1 + q.2
theorem z_step_some {n : Nat} {w p : Nat → Nat} {R M : Nat} {c d : ZC} (h : z_step n w p R M c = some d) : (z_new n w p c).length ≤ M ∧ d = z_to n w p R c ∧ d.2.2.2.1.length ≤ (z_new n w p c).length ∧ d.2.2.1 = c.2.2.1 + 1 := by
  unfold z_step at h
  split at h
  · cases h
  · cases h
    refine ⟨by omega, rfl, ?_, ?_⟩
    · unfold z_to
      split
      · exact List.length_filter_le _ _
      · exact List.length_filter_le _ _
    · unfold z_to; split <;> rfl
theorem z_wc_le {n : Nat} {w p : Nat → Nat} {M : Nat} {c : ZC} {q : Nat × Nat} (hq : z_q q c) : z_sum q ≤ z_sum (z_wc n w p M c q) := by
  have h2 := hq.2.1.le
  have := (z_cp_le (c := q.2) (by omega) (n := min (z_new n w p c).length M)).2
  unfold z_wc
  split
  · exact Nat.le_refl _
  · split
    · show q.1 + q.2 ≤ q.1 + z_cp q.2 (min (z_new n w p c).length M); omega
    · show q.1 + q.2 ≤ z_cp q.2 (min (z_new n w p c).length M) + q.1; omega
theorem z_wc_ok {n : Nat} {w p : Nat → Nat} {R M : Nat} {c : ZC} {q : Nat × Nat} (hM : M ≤ 1000) (hq : z_q q c) : ((z_proved n c = true ∨ z_step n w p R M c = none) → z_q (z_wc n w p M c q) c) ∧ (∀ d, ¬ z_proved n c = true → z_step n w p R M c = some d → z_q (z_wc n w p M c q) d) := by
  obtain ⟨h1, h2, h3⟩ := hq
  have hcp := z_cp_pw h2 (n := min (z_new n w p c).length M) (by omega)
  have hle := (z_cp_le (c := q.2) (by have := h2.le; omega) (n := min (z_new n w p c).length M)).1
  unfold z_wc
  refine ⟨fun h => ?_, fun d hp hs => ?_⟩
  · split
    · exact ⟨h1, h2, h3⟩
    · next hp =>
      have hs := h.resolve_left hp
      unfold z_step at hs
      split at hs
      · next g => rw [if_pos g]; exact ⟨h1, hcp, h3⟩
      · cases hs
  · obtain ⟨a1, a2, a3, -⟩ := z_step_some hs
    rw [if_neg hp, if_neg (by omega)]
    refine ⟨hcp, h1, ?_⟩
    show d.2.2.2.1.length ≤ z_cp q.2 (min (z_new n w p c).length M)
    omega
theorem s0_isProved {n f t : Nat} {L : List ZT} {post : Int32 → Prop} (hn : n ≤ 60) (hf : f ≤ 60) (ht : t ≤ 60) (hL : L.length ≤ 1000) (h1 : (L = [] ∨ (f = 0 ∧ t = n)) → post 1) (h0 : ¬ (L = [] ∨ (f = 0 ∧ t = n)) → post 0) : wX0_isProved (nI f) (y_to t) (nI L.length) (nI n) post := by
  unfold wX0_isProved wX0_isProved_33
  have e : nI n - 1 = y_to n := rfl
  rw [e]
  simp (disch := omega) only [y_to_eq]
  simp (disch := omega) only [q32, q64, nI_add, nI_ltI, nI_leI, nI_eq, nI_clamp, vp_in_nI, lN_add, lN_mul, pk_lLT, pk_lLE, pk_lEQ, nI_l, lN_i, nI_sub, nI_an, lN_sub, lN_an, Nat.add_sub_cancel, and_true, true_and, List.length_eq_zero_iff]
  exact ⟨fun g => h1 (Or.inl g), fun g => ⟨fun q => ⟨fun r => h1 (Or.inr ⟨q, r⟩), fun r => h0 (fun z => z.elim g (fun y => r y.2))⟩, fun q => h0 (fun z => z.elim g (fun y => q y.1))⟩⟩
theorem nI_neg1 {a : Nat} : (-1 : Int32) * nI a = -nI a := by
  rw [show (-1 : Int32) = -(1 : Int32) from rfl, Int32.neg_mul, Int32.one_mul]
theorem s0_widen {n : Nat} {w p : Nat → Nat} {R M : Nat} {c : ZC} {q : Nat × Nat} {mb : Nat} {t_ranked_weights t_ranked_profits : Nat → Int32} (hb : y_bd n w p) (hwp : x_wp n w p t_ranked_weights t_ranked_profits) (hok : z_ok n w p R M c) (hM1 : M ≤ 1000) (hR : R < 2 ^ 31) (hq : z_q q c)
    {t_spare_size : Int32} {t_sets_weights t_sets_profits t_spare_profits t_spare_weights : Nat → Int32} {t_sets_bits t_spare_bits : Nat → Int64} (hset : x_set c.2.2.2.1 t_sets_weights t_sets_profits t_sets_bits) (hmb : 6 * (z_sum (z_wc n w p M c q) - z_sum q) ≤ mb)
    {post : Int32 → Int32 → Int32 → Int32 → Int32 → Int32 → Int64 → Int32 → Int32 → (Nat → Int32) → Nat → (Nat → Int32) → Nat → (Nat → Int64) → Nat → (Nat → Int32) → Nat → (Nat → Int32) → Nat → (Nat → Int64) → Nat → Prop}
    (hk : ∀ (r : Int32) (d : ZC) (sz : Int32) (sw sp : Nat → Int32) (sb : Nat → Int64) (sp2 sw2 : Nat → Int32) (sb2 : Nat → Int64), ((z_proved n c = true ∨ z_step n w p R M c = none) ∧ r = 0 ∧ d = c ∨ ¬ z_proved n c = true ∧ z_step n w p R M c = some d ∧ r = 1) → z_ok n w p R M d → z_q (z_wc n w p M c q) d → x_set d.2.2.2.1 sw sp sb →
      post r (nI d.1) (y_to d.2.1) (nI d.2.2.1) (nI d.2.2.2.2.1) (nI d.2.2.2.2.2.1) (lN d.2.2.2.2.2.2) (nI d.2.2.2.1.length) sz sw (z_wc n w p M c q).1 sp (z_wc n w p M c q).1 sb (z_wc n w p M c q).1 sp2 (z_wc n w p M c q).2 sw2 (z_wc n w p M c q).2 sb2 (z_wc n w p M c q).2) :
    wX0_widen mb (nI M) (nI n) (nI R) t_ranked_weights t_ranked_profits post (nI c.1) (y_to c.2.1) (nI c.2.2.1) (nI c.2.2.2.2.1) (nI c.2.2.2.2.2.1) (lN c.2.2.2.2.2.2) (nI c.2.2.2.1.length) t_spare_size t_sets_weights q.1 t_sets_profits q.1 t_sets_bits q.1 t_spare_profits q.2 t_spare_weights q.2 t_spare_bits q.2 := by
  have hn := hb.1
  obtain ⟨w0, w1⟩ := z_wc_ok (R := R) (w := w) (p := p) (n := n) hM1 hq
  have hqle := hq.1.le
  have hqle2 := hq.2.1.le
  have hlim := hok.1
  unfold wX0_widen
  refine s0_isProved hn (by omega) (by omega) (Nat.le_trans hok.2.2.2.1 hM1) (fun h => ?_) (fun h => ?_)
  · have hp : z_proved n c = true := by unfold z_proved; rw [decide_eq_true_iff]; exact h
    unfold wX0_widen_4
    refine ⟨fun z => absurd z (by decide), fun _ => ?_⟩
    have := hk 0 c t_spare_size _ _ _ t_spare_profits t_spare_weights t_spare_bits (Or.inl ⟨Or.inl hp, rfl, rfl⟩) hok (w0 (Or.inl hp)) hset
    have e : z_wc n w p M c q = q := by unfold z_wc; rw [if_pos hp]
    rw [e] at this
    exact this
  · have hp : ¬ z_proved n c = true := by unfold z_proved; rw [decide_eq_true_iff]; exact h
    obtain ⟨a1, a2, a3, a4, a5, a6⟩ := z_new_ok (R := R) hok hp
    obtain ⟨⟨o1, o2, o3⟩, oi, os, ol, ob, oR⟩ := id hok
    have hsL : ∀ s ∈ c.2.2.2.1, s.1 < 2 ^ 31 ∧ s.2.1 < 2 ^ 31 ∧ s.2.2 < 2 ^ 60 := fun s hs => z_in_lt hb o2 (os s hs)
    have hsN : ∀ s ∈ z_new n w p c, s.1 < 2 ^ 31 ∧ s.2.1 < 2 ^ 31 ∧ s.2.2 < 2 ^ 60 := fun s hs => z_in_lt hb a5 (a2 s hs)
    have hbp := (z_in_lt hb (Nat.le_refl n) ob).2.1
    have hwc : z_wc n w p M c q = if M < (z_new n w p c).length then (q.1, z_cp q.2 (min (z_new n w p c).length M)) else (z_cp q.2 (min (z_new n w p c).length M), q.1) := by unfold z_wc; rw [if_neg hp]
    have hcpw := z_cp_pw hq.2.1 (n := min (z_new n w p c).length M) (by omega)
    have hcpl := hcpw.le
    have hcpn := (z_cp_le (c := q.2) (by omega) (n := min (z_new n w p c).length M)).1
    have hcp2 := (z_cp_le (c := q.2) (by omega) (n := min (z_new n w p c).length M)).2
    have hcost : 6 * (z_cp q.2 (min (z_new n w p c).length M) - q.2) ≤ mb := by
      refine Nat.le_trans ?_ hmb
      rw [hwc]
      split
      · show _ ≤ 6 * (q.1 + z_cp q.2 (min (z_new n w p c).length M) - (q.1 + q.2)); omega
      · show _ ≤ 6 * (z_cp q.2 (min (z_new n w p c).length M) + q.1 - (q.1 + q.2)); omega
    -- the merge's answers
    have stuck : M < (z_new n w p c).length → ∀ (v1 v2 : Int32) (g0 : Nat) (sw sp : Nat → Int32) (sb : Nat → Int64), wX0_widen_120 mb (nI M) (nI n) (nI R) t_ranked_weights t_ranked_profits post g0 (nI c.1) (y_to c.2.1) (nI c.2.2.1) (nI c.2.2.2.2.1) (nI c.2.2.2.2.2.1) (lN c.2.2.2.2.2.2) (nI c.2.2.2.1.length) (nI M) t_sets_weights q.1 t_sets_profits q.1 t_sets_bits q.1 sp (z_cp q.2 (min (z_new n w p c).length M)) sw (z_cp q.2 (min (z_new n w p c).length M)) sb (z_cp q.2 (min (z_new n w p c).length M)) v1 v2 0 := by
      intro hgt v1 v2 g0 sw sp sb
      have hs : z_step n w p R M c = none := by unfold z_step; rw [if_pos hgt]
      unfold wX0_widen_120
      refine ⟨fun _ => ?_, fun z => absurd rfl z⟩
      have := hk 0 c (nI M) _ _ _ sp sw sb (Or.inl ⟨Or.inr hs, rfl, rfl⟩) hok (w0 (Or.inr hs)) hset
      rw [if_pos hgt] at hwc
      rw [hwc] at this
      exact this
    have goes : (z_new n w p c).length ≤ M → ∀ (v1 : Int32) (g0 : Nat) (sw sp : Nat → Int32) (sb : Nat → Int64), x_set (z_new n w p c) sw sp sb → (z_right n c.1 c.2.1 c.2.2.1 = true ∧ v1 = 1 ∨ ¬ z_right n c.1 c.2.1 c.2.2.1 = true ∧ v1 = 0) →
        wX0_widen_120 mb (nI M) (nI n) (nI R) t_ranked_weights t_ranked_profits post g0 (nI c.1) (y_to c.2.1) (nI c.2.2.1) (nI c.2.2.2.2.1) (nI c.2.2.2.2.2.1) (lN c.2.2.2.2.2.2) (nI c.2.2.2.1.length) (nI (z_new n w p c).length) t_sets_weights q.1 t_sets_profits q.1 t_sets_bits q.1 sp (z_cp q.2 (min (z_new n w p c).length M)) sw (z_cp q.2 (min (z_new n w p c).length M)) sb (z_cp q.2 (min (z_new n w p c).length M)) v1 (if v1 = 1 then nI c.2.1 else nI (c.1 - 1)) 1 := by
      intro hle v1 g0 sw sp sb hy hv
      have hs : z_step n w p R M c = some (z_to n w p R c) := by unfold z_step; rw [if_neg (by omega)]
      rw [if_neg (by omega)] at hwc
      have fin := fun (sw sp : Nat → Int32) (sb : Nat → Int64) (h : x_set (z_to n w p R c).2.2.2.1 sw sp sb) => hk 1 _ (nI c.2.2.2.1.length) sw sp sb t_sets_profits t_sets_weights t_sets_bits (Or.inr ⟨hp, hs, rfl⟩) (z_step_ok hok hp hs) (w1 _ hp hs) h
      rw [hwc] at fin
      unfold wX0_widen_120
      refine ⟨fun z => absurd z (by decide), fun _ => ?_⟩
      rcases hv with ⟨hr, rfl⟩ | ⟨hr, rfl⟩
      · have e1 : z_to n w p R c = z_mk n w p R c.1 (c.2.1 + 1) (c.2.2.1 + 1) (z_new n w p c) c.2.2.2.2 := by unfold z_to; rw [if_pos hr]
        rw [e1] at fin
        have ht := z_right_t hr (fun z => h (Or.inr z)) o2
        refine ⟨fun z => absurd z (by decide), fun _ => ?_⟩
        unfold wX0_widen_158
        refine ⟨fun z => absurd z (by decide), fun _ => ?_⟩
        rw [if_pos rfl]
        unfold wX0_widen_174
        refine s0_findBest hy a1 (fun s hs => ⟨(hsN s hs).1, (hsN s hs).2.1⟩) hbp (by omega) (by omega) hR ?_
        unfold wX0_widen_191
        have e2 : nI c.2.1 = y_to (c.2.1 + 1) := by unfold y_to; rw [← nI_1, Int32.add_sub_cancel]
        rw [e2, nI_1]
        exact s0_dropBoundedAway hb hwp hR (by omega) (by omega) (by omega) (by omega) (fun s hs => ⟨(hsN s hs).1, (hsN s hs).2.1⟩) (by
          have hok2 := (z_step_ok hok hp hs).2.2.2.2.1
          rw [e1] at hok2
          exact (z_in_lt hb (Nat.le_refl n) hok2).2.1) hy fin
      · have e1 : z_to n w p R c = z_mk n w p R (c.1 - 1) c.2.1 (c.2.2.1 + 1) (z_new n w p c) c.2.2.2.2 := by unfold z_to; rw [if_neg hr]
        rw [e1] at fin
        have hf := z_right_f hr
        refine ⟨fun _ => ?_, fun z => absurd rfl z⟩
        unfold wX0_widen_158
        refine ⟨fun _ => ?_, fun z => absurd rfl z⟩
        rw [if_neg (by decide)]
        unfold wX0_widen_174
        refine s0_findBest hy a1 (fun s hs => ⟨(hsN s hs).1, (hsN s hs).2.1⟩) hbp (by omega) (by omega) hR ?_
        unfold wX0_widen_191
        rw [nI_1]
        exact s0_dropBoundedAway hb hwp hR (by omega) (by omega) (by omega) (by omega) (fun s hs => ⟨(hsN s hs).1, (hsN s hs).2.1⟩) (by
          have hok2 := (z_step_ok hok hp hs).2.2.2.2.1
          rw [e1] at hok2
          exact (z_in_lt hb (Nat.le_refl n) hok2).2.1) hy fin
    -- to the right
    have right : z_right n c.1 c.2.1 c.2.2.1 = true → wX0_widen_46 mb (nI M) (nI n) (nI R) t_ranked_weights t_ranked_profits post 0 (nI c.1) (y_to c.2.1) (nI c.2.2.1) (nI c.2.2.2.2.1) (nI c.2.2.2.2.2.1) (lN c.2.2.2.2.2.2) (nI c.2.2.2.1.length) t_spare_size t_sets_weights q.1 t_sets_profits q.1 t_sets_bits q.1 t_spare_profits q.2 t_spare_weights q.2 t_spare_bits q.2 1 := by
      intro hr
      have ht := z_right_t hr (fun z => h (Or.inr z)) o2
      obtain ⟨x1, x2⟩ := hwp c.2.1 ht
      have l1 := hb.lt ht
      have hnew : z_new n w p c = z_next (z_shR w p c.2.1) c.2.2.2.1 := by unfold z_new; rw [if_pos hr]
      have hpw : 2 ^ c.2.1 ≤ 2 ^ 59 := z_pow_le (by omega)
      unfold wX0_widen_46
      refine ⟨fun z => absurd z (by decide), fun _ => ?_⟩
      unfold wX0_widen_66
      refine ⟨fun z => absurd z (by decide), fun _ => ?_⟩
      unfold wX0_widen_76
      rw [show y_to c.2.1 + 1 = nI c.2.1 from y_to_1 _, nI_clamp (by omega), x1, x2, show (1 : Int64) = lN 1 from rfl, wb_shl 1 (show c.2.1 < 64 by omega), Nat.one_mul, Int32.one_mul, Int32.one_mul, show ((1 : Int32)).toInt64 = 1 from rfl, Int64.one_mul]
      refine ⟨vp_in_nI (by omega) (by omega), vp_in_nI (by omega) (by omega), 6 * (z_cp q.2 (min (z_new n w p c).length M) - q.2), by omega, ?_⟩
      refine s4_mergeOf (sh := z_shR w p c.2.1) hset hq.2.2 (by omega) (by omega) hq.2.1 hM1 (fun s hs => ?_) (fun s hs => ⟨nI_add _ _, nI_add _ _, lN_add _ _⟩) (by rw [← hnew]; exact Nat.le_refl _) (fun hle sw sp sb hy => ?_) (fun hgt sw sp sb => ?_)
      · have h7 := hsL s hs
        have h8 := z_in_lt hb (show c.2.1 + 1 ≤ n by omega) (z_in_R (os s hs) o1)
        exact ⟨⟨h7.1, h7.2.1, by omega⟩, ⟨h8.1, h8.2.1, by omega⟩⟩
      · rw [← hnew] at hy ⊢
        exact goes (by rw [hnew]; exact hle) 1 _ sw sp sb hy (Or.inl ⟨hr, rfl⟩)
      · rw [← hnew]
        exact stuck (by rw [hnew]; exact hgt) 1 _ _ sw sp sb
    have left : ¬ z_right n c.1 c.2.1 c.2.2.1 = true → wX0_widen_46 mb (nI M) (nI n) (nI R) t_ranked_weights t_ranked_profits post 0 (nI c.1) (y_to c.2.1) (nI c.2.2.1) (nI c.2.2.2.2.1) (nI c.2.2.2.2.2.1) (lN c.2.2.2.2.2.2) (nI c.2.2.2.1.length) t_spare_size t_sets_weights q.1 t_sets_profits q.1 t_sets_bits q.1 t_spare_profits q.2 t_spare_weights q.2 t_spare_bits q.2 0 := by
      intro hr
      have hf := z_right_f hr
      have hf1 : c.1 - 1 < n := by omega
      obtain ⟨x1, x2⟩ := hwp (c.1 - 1) hf1
      have l1 := hb.lt hf1
      have hnew : z_new n w p c = z_next (z_shL w p (c.1 - 1)) c.2.2.2.1 := by unfold z_new; rw [if_neg hr]
      have hpw : 2 ^ (c.1 - 1) ≤ 2 ^ 59 := z_pow_le (by omega)
      have hql : ∀ s ∈ c.2.2.2.1, w (c.1 - 1) ≤ s.1 ∧ p (c.1 - 1) ≤ s.2.1 ∧ 2 ^ (c.1 - 1) ≤ s.2.2 ∧ z_in w p (c.1 - 1) c.2.1 (z_shL w p (c.1 - 1) s) := fun s hs' => by
        have := os s hs'
        rw [show c.1 = (c.1 - 1) + 1 by omega] at this
        exact z_in_L this
      unfold wX0_widen_46
      refine ⟨fun _ => ?_, fun z => absurd rfl z⟩
      unfold wX0_widen_66
      refine ⟨fun _ => ?_, fun z => absurd rfl z⟩
      unfold wX0_widen_76
      rw [show nI c.1 - 1 = nI (c.1 - 1) from nI_sub (b := 1) (by omega), nI_clamp (by omega), x1, x2, show (1 : Int64) = lN 1 from rfl, wb_shl 1 (show c.1 - 1 < 64 by omega), Nat.one_mul, nI_neg1, nI_neg1, show ((-1 : Int32)).toInt64 = -1 from rfl, Int64.neg_mul, Int64.one_mul]
      refine ⟨vp_in_nI (by omega) (by omega), vp_in_nI (by omega) (by omega), 6 * (z_cp q.2 (min (z_new n w p c).length M) - q.2), by omega, ?_⟩
      refine s4_mergeOf (sh := z_shL w p (c.1 - 1)) hset hq.2.2 (by omega) (by omega) hq.2.1 hM1 (fun s hs => ?_) (fun s hs => ?_) (by rw [← hnew]; exact Nat.le_refl _) (fun hle sw sp sb hy => ?_) (fun hgt sw sp sb => ?_)
      · have h7 := hsL s hs
        have h8 := z_in_lt hb o2 (hql s hs).2.2.2
        exact ⟨⟨h7.1, h7.2.1, by omega⟩, ⟨h8.1, h8.2.1, by omega⟩⟩
      · obtain ⟨g1, g2, g3, -⟩ := hql s hs
        exact ⟨nI_an g1, nI_an g2, lN_an g3⟩
      · rw [← hnew] at hy ⊢
        have := goes (by rw [hnew]; exact hle) 0 (0 + 6 * (z_cp q.2 (min (z_new n w p c).length M) - q.2)) sw sp sb hy (Or.inr ⟨hr, rfl⟩)
        rw [if_neg (by decide)] at this
        exact this
      · rw [← hnew]
        exact stuck (by rw [hnew]; exact hgt) 0 _ _ sw sp sb
    unfold wX0_widen_4
    refine ⟨fun _ => ?_, fun z => absurd rfl z⟩
    have h34 : ¬ (c.2.2.1 % 2 = 0 ∧ c.2.1 < n) → wX0_widen_34 mb (nI M) (nI n) (nI R) t_ranked_weights t_ranked_profits post 0 (nI c.1) (y_to c.2.1) (nI c.2.2.1) (nI c.2.2.2.2.1) (nI c.2.2.2.2.2.1) (lN c.2.2.2.2.2.2) (nI c.2.2.2.1.length) t_spare_size t_sets_weights q.1 t_sets_profits q.1 t_sets_bits q.1 t_spare_profits q.2 t_spare_weights q.2 t_spare_bits q.2 := by
      intro hn2
      unfold wX0_widen_34 wX0_widen_41
      rw [show (nI c.1 = 0) = (nI c.1 = nI 0) from rfl, nI_eq (by omega) (by omega)]
      refine ⟨fun z => right ?_, fun z => left ?_⟩
      · unfold z_right; rw [decide_eq_true_iff]; exact Or.inr z
      · unfold z_right; rw [decide_eq_true_iff]; omega
    have e : nI n - 1 = y_to n := rfl
    rw [e, show nI c.2.2.1 - nI c.2.2.1 / 2 * 2 = nI (c.2.2.1 % 2) from nI_rem2 (by omega), show (nI (c.2.2.1 % 2) = 0) = (nI (c.2.2.1 % 2) = nI 0) from rfl, nI_eq (by omega) (by omega), y_to_lt (by omega) (by omega)]
    refine ⟨fun z => ⟨fun y => ?_, fun y => h34 (fun x => y x.2)⟩, fun z => h34 (fun x => z x.1)⟩
    unfold wX0_widen_41
    refine right ?_
    unfold z_right; rw [decide_eq_true_iff]; exact Or.inl ⟨z, y⟩
