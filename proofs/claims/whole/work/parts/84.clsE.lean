/-! the class: the begin, so many steps, all steps -/
theorem s0_begin {e n : Nat} {W P : Nat → Nat} {R M cap : Nat} {p1_weights p1_profits : Nat → Int32} (hA : x_ld e n W P p1_weights p1_profits) (hR : R < 2 ^ 31) (hc : z_pw cap) {post : Int32 → Int32 → Int32 → Int32 → Int32 → Int32 → Int64 → Int32 → Int32 → Int32 → Int32 → Int32 → Int32 → (Nat → Int32) → (Nat → Int32) → (Nat → Int32) → (Nat → Int32) → (Nat → Int32) → (Nat → Int32) → (Nat → Int64) → Prop} {t_most t_from t_to t_steps t_bestWeight t_bestProfit : Int32} {t_bestBits : Int64} {t_ranked_items t_ranked_room t_ranked_breakPlace t_ranked_breakWeight t_ranked_breakProfit t_sets_size : Int32} {t_ranked_itemAt t_ranked_placeOf t_ranked_weights t_ranked_profits t_sets_weights t_sets_profits : Nat → Int32} {t_sets_bits : Nat → Int64}
    (hk : ∀ (itemAt placeOf tw tp sw sp : Nat → Int32) (sb : Nat → Int64), x_arr e W P n itemAt placeOf tw tp → x_set (z_begin (z_c e n) (z_w e W P n) (z_p e W P n) R).2.2.2.1 sw sp sb →
      post (nI M) (nI (z_begin (z_c e n) (z_w e W P n) (z_p e W P n) R).1) (y_to (z_begin (z_c e n) (z_w e W P n) (z_p e W P n) R).2.1) (nI (z_begin (z_c e n) (z_w e W P n) (z_p e W P n) R).2.2.1) (nI (z_begin (z_c e n) (z_w e W P n) (z_p e W P n) R).2.2.2.2.1) (nI (z_begin (z_c e n) (z_w e W P n) (z_p e W P n) R).2.2.2.2.2.1) (lN (z_begin (z_c e n) (z_w e W P n) (z_p e W P n) R).2.2.2.2.2.2)
        (nI (z_c e n)) (nI R) (nI (z_bk (z_w e W P n) R (z_c e n) 0)) (nI (z_sm (z_w e W P n) (z_bk (z_w e W P n) R (z_c e n) 0))) (nI (z_sm (z_p e W P n) (z_bk (z_w e W P n) R (z_c e n) 0))) (nI (z_begin (z_c e n) (z_w e W P n) (z_p e W P n) R).2.2.2.1.length) itemAt placeOf tw tp sw sp sb) :
    wX0_begin (nI (z_c e n)) (nI R) (nI M) p1_profits p1_weights cap cap cap post t_most t_from t_to t_steps t_bestWeight t_bestProfit t_bestBits t_ranked_items t_ranked_room t_ranked_breakPlace t_ranked_breakWeight t_ranked_breakProfit t_sets_size t_ranked_itemAt t_ranked_placeOf t_ranked_weights t_ranked_profits t_sets_weights t_sets_profits t_sets_bits := by
  have hb := hA.bd
  have hcl := hc.le
  obtain ⟨hbk, hbk2⟩ := z_begin_p (n := z_c e n) (w := z_w e W P n) (p := z_p e W P n) (R := R) hb.1
  unfold wX0_begin
  refine s2_rank hA hR (fun itemAt placeOf tw tp harr => ?_)
  unfold wX0_begin_8 wX4_put_v0
  have hp := z_pow_pos (z_bk (z_w e W P n) R (z_c e n) 0)
  have hsh : ((1 : Int64) <<< ((nI (z_bk (z_w e W P n) R (z_c e n) 0)).toInt64 &&& 63)) - 1 = lN (2 ^ z_bk (z_w e W P n) R (z_c e n) 0 - 1) := by
    rw [show (1 : Int64) = lN 1 from rfl, wb_shl 1 (by omega), Nat.one_mul, lN_sub (by omega)]
  rw [hsh, show ((0 : Int32)).toNatClampNeg = 0 from rfl]
  refine ⟨nI_lt (a := 0) (by omega) (by omega), vp_in_nI (n := 0) (by omega) (by omega), vp_in_nI (n := 0) (by omega) (by omega), vp_in_nI (n := 0) (by omega) (by omega), ?_⟩
  refine hk itemAt placeOf tw tp _ _ _ harr (fun i hi => ?_)
  have hi0 : i = 0 := by
    have : i < 1 := hi
    omega
  subst hi0
  rw [pk_us, pk_us, pk_uLs]
  exact ⟨rfl, rfl, rfl⟩
theorem z_begin_q {n : Nat} {w p : Nat → Nat} {R : Nat} {q : Nat × Nat} (h1 : z_pw q.1) (h2 : z_pw q.2) : z_q q (z_begin n w p R) := ⟨h1, h2, by have := h1.le; show 1 ≤ q.1; omega⟩
/-- how long the rows are behind so many steps -/
def z_wcr (n : Nat) (w p : Nat → Nat) (R M : Nat) : Nat → ZC → Nat × Nat → Nat × Nat
  | 0, _, q => q
  | k + 1, c, q => match z_step n w p R M c with
    | none => z_wc n w p M c q
    | some d => z_wcr n w p R M k d (z_wc n w p M c q)
def z_wce (n : Nat) (w p : Nat → Nat) (R M : Nat) : Nat → ZC → Nat × Nat → Nat × Nat
  | 0, _, q => q
  | k + 1, c, q => if z_proved n c = true then z_wc n w p M c q else match z_step n w p R M c with
    | none => z_wc n w p M c q
    | some d => z_wce n w p R M k d (z_wc n w p M c q)
/-- the most sets there were -/
def z_gm (n : Nat) (w p : Nat → Nat) (R M : Nat) : Nat → ZC → Nat → Nat
  | 0, _, a => a
  | k + 1, c, a => if z_proved n c = true then a else match z_step n w p R M c with
    | none => a
    | some d => z_gm n w p R M k d (if a < d.2.2.2.1.length then d.2.2.2.1.length else a)
theorem z_wcr_ok {n : Nat} {w p : Nat → Nat} {R M : Nat} (hM : M ≤ 1000) : ∀ {k : Nat} {c d : ZC} {q : Nat × Nat}, z_ok n w p R M c → z_q q c → z_run n w p R M k c = some d → z_q (z_wcr n w p R M k c q) d ∧ z_sum q ≤ z_sum (z_wcr n w p R M k c q)
  | 0, c, d, q, h, hq, hd => by cases hd; exact ⟨hq, Nat.le_refl _⟩
  | k + 1, c, d, q, h, hq, hd => by
    unfold z_run at hd
    split at hd
    · cases hd
    · next hp =>
      unfold z_wcr
      cases hs : z_step n w p R M c with
      | none => rw [hs] at hd; cases hd
      | some e =>
        rw [hs] at hd
        obtain ⟨a1, a2⟩ := z_wcr_ok hM (z_step_ok h hp hs) ((z_wc_ok hM hq).2 e hp hs) (show z_run n w p R M k e = some d from hd)
        exact ⟨a1, Nat.le_trans (z_wc_le hq) a2⟩
theorem z_wce_ok {n : Nat} {w p : Nat → Nat} {R M : Nat} (hM : M ≤ 1000) : ∀ {k : Nat} {c : ZC} {q : Nat × Nat}, z_ok n w p R M c → z_q q c → z_q (z_wce n w p R M k c q) (z_end n w p R M k c) ∧ z_sum q ≤ z_sum (z_wce n w p R M k c q)
  | 0, c, q, h, hq => ⟨hq, Nat.le_refl _⟩
  | k + 1, c, q, h, hq => by
    unfold z_wce z_end
    split
    · next hp => exact ⟨(z_wc_ok (R := R) hM hq).1 (Or.inl hp), z_wc_le hq⟩
    · next hp =>
      cases hs : z_step n w p R M c with
      | none => exact ⟨(z_wc_ok (R := R) hM hq).1 (Or.inr hs), z_wc_le hq⟩
      | some e =>
        obtain ⟨a1, a2⟩ := z_wce_ok hM (k := k) (z_step_ok h hp hs) ((z_wc_ok hM hq).2 e hp hs)
        exact ⟨a1, Nat.le_trans (z_wc_le hq) a2⟩
theorem z_end_ok {n : Nat} {w p : Nat → Nat} {R M : Nat} : ∀ {k : Nat} {c : ZC}, z_ok n w p R M c → z_ok n w p R M (z_end n w p R M k c)
  | 0, c, h => h
  | k + 1, c, h => by
    unfold z_end
    split
    · exact h
    · next hp =>
      cases hs : z_step n w p R M c with
      | none => exact h
      | some e => exact z_end_ok (z_step_ok h hp hs)
theorem s0_widenTo {n : Nat} {w p : Nat → Nat} {R M K k : Nat} {c d : ZC} {q : Nat × Nat} {mb : Nat} {t_ranked_weights t_ranked_profits : Nat → Int32} (hb : y_bd n w p) (hwp : x_wp n w p t_ranked_weights t_ranked_profits) (hok : z_ok n w p R M c) (hM1 : M ≤ 1000) (hR : R < 2 ^ 31) (hq : z_q q c) (hK : c.2.2.1 + k = K) (hrun : z_run n w p R M k c = some d)
    {t_spare_size : Int32} {t_sets_weights t_sets_profits t_spare_profits t_spare_weights : Nat → Int32} {t_sets_bits t_spare_bits : Nat → Int64} (hset : x_set c.2.2.2.1 t_sets_weights t_sets_profits t_sets_bits) (hmb : 6 * (z_sum (z_wcr n w p R M k c q) - z_sum q) ≤ mb)
    {post : Int32 → Int32 → Int32 → Int32 → Int32 → Int64 → Int32 → Int32 → (Nat → Int32) → Nat → (Nat → Int32) → Nat → (Nat → Int64) → Nat → (Nat → Int32) → Nat → (Nat → Int32) → Nat → (Nat → Int64) → Nat → Prop}
    (hk : ∀ (sz : Int32) (sw sp : Nat → Int32) (sb : Nat → Int64) (sp2 sw2 : Nat → Int32) (sb2 : Nat → Int64), x_set d.2.2.2.1 sw sp sb →
      post (nI d.1) (y_to d.2.1) (nI d.2.2.1) (nI d.2.2.2.2.1) (nI d.2.2.2.2.2.1) (lN d.2.2.2.2.2.2) (nI d.2.2.2.1.length) sz sw (z_wcr n w p R M k c q).1 sp (z_wcr n w p R M k c q).1 sb (z_wcr n w p R M k c q).1 sp2 (z_wcr n w p R M k c q).2 sw2 (z_wcr n w p R M k c q).2 sb2 (z_wcr n w p R M k c q).2) :
    wX0_widenTo mb (nI M) (nI n) (nI R) t_ranked_weights t_ranked_profits post (nI c.1) (y_to c.2.1) (nI c.2.2.1) (nI c.2.2.2.2.1) (nI c.2.2.2.2.2.1) (lN c.2.2.2.2.2.2) (nI c.2.2.2.1.length) t_spare_size t_sets_weights q.1 t_sets_profits q.1 t_sets_bits q.1 t_spare_profits q.2 t_spare_weights q.2 t_spare_bits q.2 (nI K) := by
  have hn := hb.1
  have hK60 : K ≤ 60 := by
    obtain ⟨h1, h2⟩ := z_run_ok hok hrun
    have := h1.1
    omega
  have main : ∀ (j : Nat) (c2 : ZC) (q2 : Nat × Nat) (g0 : Nat) (sz : Int32) (sw sp : Nat → Int32) (sb : Nat → Int64) (sp2 sw2 : Nat → Int32) (sb2 : Nat → Int64), z_ok n w p R M c2 → z_q q2 c2 → c2.2.2.1 + j = K → z_run n w p R M j c2 = some d → z_wcr n w p R M j c2 q2 = z_wcr n w p R M k c q → g0 + z_sum q * 6 = z_sum q2 * 6 → x_set c2.2.2.2.1 sw sp sb →
      wX0_widenTo_5 mb (nI M) (nI n) (nI R) t_ranked_weights t_ranked_profits post (j + 1) g0 (nI c2.1) (y_to c2.2.1) (nI c2.2.2.1) (nI c2.2.2.2.2.1) (nI c2.2.2.2.2.2.1) (lN c2.2.2.2.2.2.2) (nI c2.2.2.2.1.length) sz sw q2.1 sp q2.1 sb q2.1 sp2 q2.2 sw2 q2.2 sb2 q2.2 (nI K) (nI c2.2.2.1) := by
    intro j
    induction j with
    | zero =>
      intro c2 q2 g0 sz sw sp sb sp2 sw2 sb2 hok2 hq2 hj hr2 hw2 hg hy
      rw [wX0_widenTo_5]
      unfold wX0_widenTo_5_b
      rw [nI_leI (by omega) (by omega)]
      refine ⟨fun _ => ?_, fun h => by omega⟩
      rw [z_run] at hr2
      cases hr2
      rw [z_wcr] at hw2
      have := hk sz sw sp sb sp2 sw2 sb2 hy
      rw [← hw2] at this
      exact this
    | succ j ih =>
      intro c2 q2 g0 sz sw sp sb sp2 sw2 sb2 hok2 hq2 hj hr2 hw2 hg hy
      have hr3 := hr2
      rw [z_run] at hr3
      split at hr3
      · cases hr3
      · next hp =>
        cases hs : z_step n w p R M c2 with
        | none => rw [hs] at hr3; cases hr3
        | some c3 =>
          rw [hs] at hr3
          have hok3 := z_step_ok hok2 hp hs
          have hq3 := (z_wc_ok hM1 hq2).2 c3 hp hs
          have hwle := z_wc_le (n := n) (w := w) (p := p) (M := M) hq2
          rw [z_wcr, hs] at hw2
          have hend := (z_wcr_ok hM1 hok3 hq3 (show z_run n w p R M j c3 = some d from hr3)).2
          rw [show z_wcr n w p R M j c3 (z_wc n w p M c2 q2) = z_wcr n w p R M k c q from hw2] at hend
          rw [wX0_widenTo_5]
          unfold wX0_widenTo_5_b
          rw [nI_leI (by omega) (by omega)]
          refine ⟨fun h => by omega, fun _ => ⟨6 * (z_sum (z_wc n w p M c2 q2) - z_sum q2), by omega, ?_⟩⟩
          refine s0_widen hb hwp hok2 hM1 hR hq2 hy (Nat.le_refl _) (fun r d2 sz sw sp sb sp2 sw2 sb2 hc hd2 hqd hy2 => ?_)
          rcases hc with ⟨hc, -, -⟩ | ⟨-, hc, -⟩
          · rcases hc with hc | hc
            · exact absurd hc hp
            · rw [hs] at hc; cases hc
          · rw [hs] at hc
            cases hc
            unfold wX0_widenTo_14
            have hm := (z_step_some hs).2.2.2
            rw [nI_1, ← hm]
            exact ih c3 _ _ sz sw sp sb sp2 sw2 sb2 hok3 hq3 (by omega) hr3 hw2 (by omega) hy2
  unfold wX0_widenTo
  exact ⟨k + 1, main k c q 0 _ _ _ _ _ _ _ hok hq hK hrun rfl (by omega) hset⟩
theorem s0_widenToTheEnd {n : Nat} {w p : Nat → Nat} {R M : Nat} {c : ZC} {q : Nat × Nat} {mb : Nat} {t_ranked_weights t_ranked_profits : Nat → Int32} (hb : y_bd n w p) (hwp : x_wp n w p t_ranked_weights t_ranked_profits) (hok : z_ok n w p R M c) (hM1 : M ≤ 1000) (hR : R < 2 ^ 31) (hq : z_q q c)
    {t_spare_size : Int32} {t_sets_weights t_sets_profits t_spare_profits t_spare_weights : Nat → Int32} {t_sets_bits t_spare_bits : Nat → Int64} (hset : x_set c.2.2.2.1 t_sets_weights t_sets_profits t_sets_bits) (hmb : 6 * (z_sum (z_wce n w p R M 60 c q) - z_sum q) ≤ mb)
    {post : Int32 → Int32 → Int32 → Int32 → Int32 → Int32 → Int64 → Int32 → Int32 → (Nat → Int32) → Nat → (Nat → Int32) → Nat → (Nat → Int64) → Nat → (Nat → Int32) → Nat → (Nat → Int32) → Nat → (Nat → Int64) → Nat → Prop}
    (hk : ∀ (d : ZC) (sz : Int32) (sw sp : Nat → Int32) (sb : Nat → Int64) (sp2 sw2 : Nat → Int32) (sb2 : Nat → Int64), d = z_end n w p R M 60 c → x_set d.2.2.2.1 sw sp sb →
      post (nI (z_gm n w p R M 60 c c.2.2.2.1.length)) (nI d.1) (y_to d.2.1) (nI d.2.2.1) (nI d.2.2.2.2.1) (nI d.2.2.2.2.2.1) (lN d.2.2.2.2.2.2) (nI d.2.2.2.1.length) sz sw (z_wce n w p R M 60 c q).1 sp (z_wce n w p R M 60 c q).1 sb (z_wce n w p R M 60 c q).1 sp2 (z_wce n w p R M 60 c q).2 sw2 (z_wce n w p R M 60 c q).2 sb2 (z_wce n w p R M 60 c q).2) :
    wX0_widenToTheEnd mb (nI M) (nI n) (nI R) t_ranked_weights t_ranked_profits post (nI c.1) (y_to c.2.1) (nI c.2.2.1) (nI c.2.2.2.2.1) (nI c.2.2.2.2.2.1) (lN c.2.2.2.2.2.2) (nI c.2.2.2.1.length) t_spare_size t_sets_weights q.1 t_sets_profits q.1 t_sets_bits q.1 t_spare_profits q.2 t_spare_weights q.2 t_spare_bits q.2 := by
  have hn := hb.1
  have main : ∀ (j : Nat) (a : Nat) (c2 : ZC) (q2 : Nat × Nat) (g0 : Nat) (sz : Int32) (sw sp : Nat → Int32) (sb : Nat → Int64) (sp2 sw2 : Nat → Int32) (sb2 : Nat → Int64), j ≤ 60 → a ≤ 1000 → z_ok n w p R M c2 → z_q q2 c2 → z_end n w p R M j c2 = z_end n w p R M 60 c → z_wce n w p R M j c2 q2 = z_wce n w p R M 60 c q → z_gm n w p R M j c2 a = z_gm n w p R M 60 c c.2.2.2.1.length → g0 + z_sum q * 6 = z_sum q2 * 6 → x_set c2.2.2.2.1 sw sp sb →
      wX0_widenToTheEnd_10 mb (nI M) (nI n) (nI R) t_ranked_weights t_ranked_profits post (j + 1) g0 (nI c2.1) (y_to c2.2.1) (nI c2.2.2.1) (nI c2.2.2.2.2.1) (nI c2.2.2.2.2.2.1) (lN c2.2.2.2.2.2.2) (nI c2.2.2.2.1.length) sz sw q2.1 sp q2.1 sb q2.1 sp2 q2.2 sw2 q2.2 sb2 q2.2 (nI a) (nI (60 - j)) := by
    intro j
    induction j with
    | zero =>
      intro a c2 q2 g0 sz sw sp sb sp2 sw2 sb2 hj ha hok2 hq2 he hw2 hg2 hg hy
      rw [wX0_widenToTheEnd_10]
      unfold wX0_widenToTheEnd_10_b
      refine ⟨fun _ => ?_, fun h => absurd (Int32.le_refl _) h⟩
      have := hk c2 sz sw sp sb sp2 sw2 sb2 he hy
      rw [← hw2, ← hg2] at this
      exact this
    | succ j ih =>
      intro a c2 q2 g0 sz sw sp sb sp2 sw2 sb2 hj ha hok2 hq2 he hw2 hg2 hg hy
      have hwle := z_wc_le (n := n) (w := w) (p := p) (M := M) hq2
      have hend := (z_wce_ok (k := j + 1) hM1 hok2 hq2).2
      rw [wX0_widenToTheEnd_10]
      unfold wX0_widenToTheEnd_10_b
      rw [show (60 : Int32) = nI 60 from rfl, nI_leI (by omega) (by omega)]
      have hcost : g0 + 6 * (z_sum (z_wc n w p M c2 q2) - z_sum q2) ≤ mb := by
        have : z_sum (z_wc n w p M c2 q2) ≤ z_sum (z_wce n w p R M 60 c q) := by
          rw [← hw2]
          unfold z_wce
          split
          · exact Nat.le_refl _
          · next hp =>
            cases hs : z_step n w p R M c2 with
            | none => exact Nat.le_refl _
            | some d => exact (z_wce_ok (k := j) hM1 (z_step_ok hok2 hp hs) ((z_wc_ok hM1 hq2).2 d hp hs)).2
        omega
      refine ⟨fun h => by omega, fun _ => ⟨6 * (z_sum (z_wc n w p M c2 q2) - z_sum q2), hcost, ?_⟩⟩
      rw [z_end] at he
      rw [z_wce] at hw2
      rw [z_gm] at hg2
      refine s0_widen hb hwp hok2 hM1 hR hq2 hy (Nat.le_refl _) (fun r d2 sz sw sp sb sp2 sw2 sb2 hc hd2 hqd hy2 => ?_)
      unfold wX0_widenToTheEnd_20
      rcases hc with ⟨hc, rfl, rfl⟩ | ⟨hp, hs, rfl⟩
      · refine ⟨fun _ => ?_, fun z => absurd rfl z⟩
        have e1 : d2 = z_end n w p R M 60 c ∧ z_wc n w p M d2 q2 = z_wce n w p R M 60 c q ∧ a = z_gm n w p R M 60 c c.2.2.2.1.length := by
          by_cases hp : z_proved n d2 = true
          · rw [if_pos hp] at he hw2 hg2
            exact ⟨he, hw2, hg2⟩
          · have hs := hc.resolve_left hp
            rw [if_neg hp, hs] at he hw2 hg2
            exact ⟨he, hw2, hg2⟩
        have := hk d2 sz sw sp sb sp2 sw2 sb2 e1.1 hy2
        rw [← e1.2.1, ← e1.2.2] at this
        exact this
      · refine ⟨fun z => absurd z (by decide), fun _ => ?_⟩
        rw [if_neg hp, hs] at he hw2 hg2
        have hl := hd2.2.2.2.1
        have e2 : (if nI a < nI d2.2.2.2.1.length then nI d2.2.2.2.1.length else nI a) = nI (if a < d2.2.2.2.1.length then d2.2.2.2.1.length else a) := by
          by_cases h : a < d2.2.2.2.1.length
          · rw [if_pos h, if_pos (nI_lt h (by omega))]
          · rw [if_neg h, if_neg (nI_nlt (by omega) (by omega))]
        rw [e2, nI_1, show 60 - (j + 1) + 1 = 60 - j by omega]
        exact ih _ d2 _ _ sz sw sp sb sp2 sw2 sb2 (by omega) (by split <;> omega) hd2 hqd he hw2 hg2 (by omega) hy2
  unfold wX0_widenToTheEnd
  exact ⟨61, main 60 _ c q 0 _ _ _ _ _ _ _ (Nat.le_refl _) (Nat.le_trans hok.2.2.2.1 hM1) hok hq rfl rfl rfl (by omega) hset⟩
