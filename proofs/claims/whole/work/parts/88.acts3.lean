/-! the class: step, solve, undo -/
theorem z_run_snoc {n : Nat} {w p : Nat → Nat} {R M : Nat} : ∀ {k : Nat} {c d d' : ZC}, z_run n w p R M k c = some d → ¬ z_proved n d = true → z_step n w p R M d = some d' → z_run n w p R M (k + 1) c = some d'
  | 0, c, d, d', h, hp, hs => by
    cases h
    unfold z_run
    rw [if_neg hp, hs]
    rfl
  | k + 1, c, d, d', h, hp, hs => by
    unfold z_run at h
    split at h
    · cases h
    · next hc =>
      cases he : z_step n w p R M c with
      | none => rw [he] at h; cases h
      | some e =>
        rw [he] at h
        unfold z_run
        rw [if_neg hc, he]
        exact z_run_snoc (k := k) (show z_run n w p R M k e = some d from h) hp hs
/-- all steps are so many steps -/
theorem z_end_run {n : Nat} {w p : Nat → Nat} {R M : Nat} {c0 : ZC} : ∀ {k j : Nat} {c : ZC}, z_run n w p R M j c0 = some c → ∃ i, z_run n w p R M i c0 = some (z_end n w p R M k c) ∧ j ≤ i ∧ (z_end n w p R M k c).2.2.1 + j = c.2.2.1 + i
  | 0, j, c, h => ⟨j, h, Nat.le_refl _, rfl⟩
  | k + 1, j, c, h => by
    unfold z_end
    split
    · exact ⟨j, h, Nat.le_refl _, rfl⟩
    · next hp =>
      cases hs : z_step n w p R M c with
      | none => exact ⟨j, h, Nat.le_refl _, rfl⟩
      | some d =>
        obtain ⟨i, h1, h2, h3⟩ := z_end_run (k := k) (z_run_snoc h hp hs)
        have := (z_step_some hs).2.2.2
        exact ⟨i, h1, by omega, by show (z_end n w p R M k d).2.2.1 + j = c.2.2.1 + i; omega⟩
/-- no step was made: it is as it was -/
theorem z_end_same {n : Nat} {w p : Nat → Nat} {R M : Nat} {k : Nat} {c : ZC} (h : (z_end n w p R M k c).2.2.1 = c.2.2.1) : z_end n w p R M k c = c := by
  cases k with
  | zero => rfl
  | succ k =>
    unfold z_end at h ⊢
    split
    · rfl
    · next hp =>
      rw [if_neg hp] at h
      cases hs : z_step n w p R M c with
      | none => rfl
      | some d =>
        rw [hs] at h
        have h1 := (z_step_some hs).2.2.2
        obtain ⟨i, -, h3, h4⟩ := z_end_run (n := n) (w := w) (p := p) (R := R) (M := M) (c0 := d) (k := k) (j := 0) (c := d) rfl
        have h' : (z_end n w p R M k d).2.2.1 = c.2.2.1 := h
        omega
abbrev l_stp (L : ZL) (d : ZC) : Option ZC := z_step (z_c 60 L.1) (z_w 60 L.2.1 L.2.2.1 L.1) (z_p 60 L.2.1 L.2.2.1 L.1) L.2.2.2.1 L.2.2.2.2.1 d
abbrev l_end (L : ZL) (d : ZC) : ZC := z_end (z_c 60 L.1) (z_w 60 L.2.1 L.2.2.1 L.1) (z_p 60 L.2.1 L.2.2.1 L.1) L.2.2.2.1 L.2.2.2.2.1 60 d
abbrev l_prv (L : ZL) (d : ZC) : Prop := z_proved (z_c 60 L.1) d = true
abbrev l_okc (L : ZL) (d : ZC) : Prop := z_ok (z_c 60 L.1) (z_w 60 L.2.1 L.2.2.1 L.1) (z_p 60 L.2.1 L.2.2.1 L.1) L.2.2.2.1 L.2.2.2.2.1 d
abbrev l_wc (L : ZL) (d : ZC) (q : Nat × Nat) : Nat × Nat := z_wc (z_c 60 L.1) (z_w 60 L.2.1 L.2.2.1 L.1) (z_p 60 L.2.1 L.2.2.1 L.1) L.2.2.2.2.1 d q
abbrev l_wce (L : ZL) (d : ZC) (q : Nat × Nat) : Nat × Nat := z_wce (z_c 60 L.1) (z_w 60 L.2.1 L.2.2.1 L.1) (z_p 60 L.2.1 L.2.2.1 L.1) L.2.2.2.1 L.2.2.2.2.1 60 d q
abbrev l_bd (L : ZL) : Prop := y_bd (z_c 60 L.1) (z_w 60 L.2.1 L.2.2.1 L.1) (z_p 60 L.2.1 L.2.2.1 L.1)
/-- the load with other steps -/
abbrev l_K (L : ZL) (K : Nat) : ZL := (L.1, L.2.1, L.2.2.1, L.2.2.2.1, L.2.2.2.2.1, K)
theorem l_at.ok {L : ZL} {d : ZC} (hl : l_lim L) (h : l_at L d) : l_okc L d ∧ d.2.2.1 = L.2.2.2.2.2 := z_at_ok hl.2.2.2.2.2.1 h
theorem l_at.step {L : ZL} {d d' : ZC} (h : l_at L d) (hp : ¬ l_prv L d) (hs : l_stp L d = some d') : l_at (l_K L (L.2.2.2.2.2 + 1)) d' := z_run_snoc h hp hs
theorem l_at.end {L : ZL} {d : ZC} (hl : l_lim L) (h : l_at L d) : l_at (l_K L (l_end L d).2.2.1) (l_end L d) := by
  obtain ⟨i, h1, h2, h3⟩ := z_end_run (k := 60) h
  have := (h.ok hl).2
  have e : (l_end L d).2.2.1 = i := by
    have h4 : (l_end L d).2.2.1 + L.2.2.2.2.2 = d.2.2.1 + i := h3
    omega
  rw [e]
  exact h1
theorem z_lim_bd {n : Nat} {W P : Nat → Nat} {R M : Nat} (hl : z_lim n W P R M) (e : Nat) : y_bd (z_c e n) (z_w e W P n) (z_p e W P n) :=
  (show x_ld e n W P (fun i => nI (W (z_u e i))) (fun i => nI (P (z_u e i))) from ⟨hl.1, fun i _ => ⟨rfl, rfl⟩, hl.2.1, hl.2.2.1, hl.2.2.2.1⟩).bd
theorem s6_step {L : ZL} {H : List ZL} {d : ZC} {q : Nat × Nat} {mb : Nat} {t_core_most t_core_ranked_items t_core_ranked_room t_now_load_items t_now_load_room t_now_load_most : Int32} {t_core_ranked_weights t_core_ranked_profits t_now_load_weights t_now_load_profits : Nat → Int32} {post : Int32 → Int32 → Int32 → Int32 → Int32 → Int32 → Int32 → Int64 → Int32 → Int32 → (Nat → Int32) → (Nat → Int32) → (Nat → Int32) → (Nat → Int32) → Int32 → (Nat → Int32) → Nat → (Nat → Int32) → Nat → (Nat → Int64) → Nat → (Nat → Int32) → Nat → (Nat → Int32) → Nat → (Nat → Int64) → Nat → (Nat → Nat → Int32) → (Nat → Nat → Int32) → Prop} {t_acts t_core_from t_core_to t_core_steps t_core_bestWeight t_core_bestProfit : Int32} {t_core_bestBits : Int64} {t_core_sets_size t_core_spare_size : Int32} {t_past_items t_past_room t_past_most t_past_steps : Nat → Int32} {t_now_load_steps : Int32} {t_core_sets_weights t_core_sets_profits : Nat → Int32} {t_core_sets_bits : Nat → Int64} {t_core_spare_profits t_core_spare_weights : Nat → Int32} {t_core_spare_bits : Nat → Int64} {t_past_weights t_past_profits : Nat → Nat → Int32} {t_core_ranked_breakPlace t_core_ranked_breakWeight t_core_ranked_breakProfit : Int32} {t_core_ranked_itemAt t_core_ranked_placeOf : Nat → Int32} (hl : l_lim L) (hx : x_L L t_now_load_items t_now_load_room t_now_load_most t_now_load_steps t_now_load_weights t_now_load_profits) (hH : x_past H t_acts t_past_items t_past_room t_past_most t_past_steps t_past_weights t_past_profits) (ha : l_at L d) (hd : l_core L d t_core_most t_core_from t_core_to t_core_steps t_core_bestWeight t_core_bestProfit t_core_bestBits t_core_ranked_items t_core_ranked_room t_core_ranked_breakPlace t_core_ranked_breakWeight t_core_ranked_breakProfit t_core_sets_size t_core_ranked_itemAt t_core_ranked_placeOf t_core_ranked_weights t_core_ranked_profits t_core_sets_weights t_core_sets_profits t_core_sets_bits) (hq : z_q q d) (hmb : 6 * (z_sum (l_wc L d q) - z_sum q) ≤ mb)
    (h1 : ∀ d', ¬ l_prv L d → l_stp L d = some d' → l_at (l_K L (L.2.2.2.2.2 + 1)) d' → z_q (l_wc L d q) d' → ∀ (r t_acts' t_core_from' t_core_to' t_core_steps' t_core_bestWeight' t_core_bestProfit' : Int32) (t_core_bestBits' : Int64) (t_core_sets_size' t_core_spare_size' : Int32) (t_past_items' t_past_room' t_past_most' t_past_steps' : Nat → Int32) (t_now_load_steps' : Int32) (t_core_sets_weights' : Nat → Int32) (n_t_core_sets_weights' : Nat) (t_core_sets_profits' : Nat → Int32) (n_t_core_sets_profits' : Nat) (t_core_sets_bits' : Nat → Int64) (n_t_core_sets_bits' : Nat) (t_core_spare_profits' : Nat → Int32) (n_t_core_spare_profits' : Nat) (t_core_spare_weights' : Nat → Int32) (n_t_core_spare_weights' : Nat) (t_core_spare_bits' : Nat → Int64) (n_t_core_spare_bits' : Nat) (t_past_weights' t_past_profits' : Nat → Nat → Int32), r = nI d'.2.2.2.1.length → x_L (l_K L (L.2.2.2.2.2 + 1)) t_now_load_items t_now_load_room t_now_load_most t_now_load_steps' t_now_load_weights t_now_load_profits → x_past (z_keep H L) t_acts' t_past_items' t_past_room' t_past_most' t_past_steps' t_past_weights' t_past_profits' → l_core (l_K L (L.2.2.2.2.2 + 1)) d' t_core_most t_core_from' t_core_to' t_core_steps' t_core_bestWeight' t_core_bestProfit' t_core_bestBits' t_core_ranked_items t_core_ranked_room t_core_ranked_breakPlace t_core_ranked_breakWeight t_core_ranked_breakProfit t_core_sets_size' t_core_ranked_itemAt t_core_ranked_placeOf t_core_ranked_weights t_core_ranked_profits t_core_sets_weights' t_core_sets_profits' t_core_sets_bits' → n_t_core_sets_weights' = (l_wc L d q).1 → n_t_core_sets_profits' = (l_wc L d q).1 → n_t_core_sets_bits' = (l_wc L d q).1 → n_t_core_spare_profits' = (l_wc L d q).2 → n_t_core_spare_weights' = (l_wc L d q).2 → n_t_core_spare_bits' = (l_wc L d q).2 → post r t_acts' t_core_from' t_core_to' t_core_steps' t_core_bestWeight' t_core_bestProfit' t_core_bestBits' t_core_sets_size' t_core_spare_size' t_past_items' t_past_room' t_past_most' t_past_steps' t_now_load_steps' t_core_sets_weights' n_t_core_sets_weights' t_core_sets_profits' n_t_core_sets_profits' t_core_sets_bits' n_t_core_sets_bits' t_core_spare_profits' n_t_core_spare_profits' t_core_spare_weights' n_t_core_spare_weights' t_core_spare_bits' n_t_core_spare_bits' t_past_weights' t_past_profits')
    (h0 : (l_prv L d ∨ l_stp L d = none) → z_q (l_wc L d q) d → ∀ (r t_acts' t_core_from' t_core_to' t_core_steps' t_core_bestWeight' t_core_bestProfit' : Int32) (t_core_bestBits' : Int64) (t_core_sets_size' t_core_spare_size' : Int32) (t_past_items' t_past_room' t_past_most' t_past_steps' : Nat → Int32) (t_now_load_steps' : Int32) (t_core_sets_weights' : Nat → Int32) (n_t_core_sets_weights' : Nat) (t_core_sets_profits' : Nat → Int32) (n_t_core_sets_profits' : Nat) (t_core_sets_bits' : Nat → Int64) (n_t_core_sets_bits' : Nat) (t_core_spare_profits' : Nat → Int32) (n_t_core_spare_profits' : Nat) (t_core_spare_weights' : Nat → Int32) (n_t_core_spare_weights' : Nat) (t_core_spare_bits' : Nat → Int64) (n_t_core_spare_bits' : Nat) (t_past_weights' t_past_profits' : Nat → Nat → Int32), (l_prv L d ∧ r = -1 ∨ ¬ l_prv L d ∧ r = -2) → x_L L t_now_load_items t_now_load_room t_now_load_most t_now_load_steps' t_now_load_weights t_now_load_profits → x_past H t_acts' t_past_items' t_past_room' t_past_most' t_past_steps' t_past_weights' t_past_profits' → l_core L d t_core_most t_core_from' t_core_to' t_core_steps' t_core_bestWeight' t_core_bestProfit' t_core_bestBits' t_core_ranked_items t_core_ranked_room t_core_ranked_breakPlace t_core_ranked_breakWeight t_core_ranked_breakProfit t_core_sets_size' t_core_ranked_itemAt t_core_ranked_placeOf t_core_ranked_weights t_core_ranked_profits t_core_sets_weights' t_core_sets_profits' t_core_sets_bits' → n_t_core_sets_weights' = (l_wc L d q).1 → n_t_core_sets_profits' = (l_wc L d q).1 → n_t_core_sets_bits' = (l_wc L d q).1 → n_t_core_spare_profits' = (l_wc L d q).2 → n_t_core_spare_weights' = (l_wc L d q).2 → n_t_core_spare_bits' = (l_wc L d q).2 → post r t_acts' t_core_from' t_core_to' t_core_steps' t_core_bestWeight' t_core_bestProfit' t_core_bestBits' t_core_sets_size' t_core_spare_size' t_past_items' t_past_room' t_past_most' t_past_steps' t_now_load_steps' t_core_sets_weights' n_t_core_sets_weights' t_core_sets_profits' n_t_core_sets_profits' t_core_sets_bits' n_t_core_sets_bits' t_core_spare_profits' n_t_core_spare_profits' t_core_spare_weights' n_t_core_spare_weights' t_core_spare_bits' n_t_core_spare_bits' t_past_weights' t_past_profits') :
    wX6_step mb t_core_most t_core_ranked_items t_core_ranked_room t_now_load_items t_now_load_room t_now_load_most t_core_ranked_weights t_core_ranked_profits t_now_load_weights t_now_load_profits post t_acts t_core_from t_core_to t_core_steps t_core_bestWeight t_core_bestProfit t_core_bestBits t_core_sets_size t_core_spare_size t_past_items t_past_room t_past_most t_past_steps t_now_load_steps t_core_sets_weights q.1 t_core_sets_profits q.1 t_core_sets_bits q.1 t_core_spare_profits q.2 t_core_spare_weights q.2 t_core_spare_bits q.2 t_past_weights t_past_profits := by
  obtain ⟨hok, hK⟩ := ha.ok hl
  have hbd := z_lim_bd hl 60
  have hcn := z_c60 hl.1
  have hlim := hok.1
  have hd' := hd
  have hx' := hx
  obtain ⟨l1, l2, l3, l4, l5, l6, l7⟩ := id hl
  obtain ⟨rfl, rfl, rfl, rfl, rfl, rfl, rfl, rfl, rfl, rfl, rfl, rfl, rfl, harr, hset⟩ := hd
  obtain ⟨w0, w1⟩ := z_wc_ok (R := L.2.2.2.1) (w := z_w 60 L.2.1 L.2.2.1 L.1) (p := z_p 60 L.2.1 L.2.2.1 L.1) (n := z_c 60 L.1) l7 hq
  unfold wX6_step
  refine s0_isProved (by omega) (by omega) (by omega) (Nat.le_trans hok.2.2.2.1 l7) (fun h => ?_) (fun h => ?_)
  · have hp : l_prv L d := by unfold l_prv z_proved; rw [decide_eq_true_iff]; exact h
    unfold wX6_step_7
    refine ⟨fun z => absurd z (by decide), fun _ => ?_⟩
    have e : l_wc L d q = q := by unfold l_wc z_wc; rw [if_pos hp]
    have := h0 (Or.inl hp) (w0 (Or.inl hp))
    rw [e] at this
    exact this _ _ _ _ _ _ _ _ _ _ _ _ _ _ _ _ _ _ _ _ _ _ _ _ _ _ _ _ _ (Or.inl ⟨hp, rfl⟩) hx' hH hd' rfl rfl rfl rfl rfl rfl
  · have hp : ¬ l_prv L d := by unfold l_prv z_proved; rw [decide_eq_true_iff]; exact h
    unfold wX6_step_7
    refine ⟨fun _ => ⟨6 * (z_sum (l_wc L d q) - z_sum q), by omega, ?_⟩, fun z => absurd rfl z⟩
    refine s0_widen hbd harr.2.2 hok l7 (by omega) hq hset (Nat.le_refl _) (fun r d2 sz sw sp sb sp2 sw2 sb2 hc hok2 hq2 hs2 => ?_)
    unfold wX6_step_19
    rcases hc with ⟨hc, rfl, rfl⟩ | ⟨_, hc, rfl⟩
    · refine ⟨fun _ => ?_, fun z => absurd rfl z⟩
      exact h0 hc (w0 hc) _ _ _ _ _ _ _ _ _ _ _ _ _ _ _ _ _ _ _ _ _ _ _ _ _ _ _ _ _ (Or.inr ⟨hp, rfl⟩) hx' hH ⟨rfl, rfl, rfl, rfl, rfl, rfl, rfl, rfl, rfl, rfl, rfl, rfl, rfl, harr, hs2⟩ rfl rfl rfl rfl rfl rfl
    · refine ⟨fun z => absurd z (by decide), fun _ => ?_⟩
      refine s6_remember l1 hx' hH (fun acts' pi pr pm pst pw pp hH' => ?_)
      unfold wX6_step_29
      have hm := (z_step_some hc).2.2.2
      obtain ⟨x1, x2, x3, x4, x5⟩ := hx'
      exact h1 d2 hp hc (ha.step hp hc) (w1 d2 hp hc) _ _ _ _ _ _ _ _ _ _ _ _ _ _ _ _ _ _ _ _ _ _ _ _ _ _ _ _ _ rfl ⟨x1, x2, x3, by rw [hm, hK], x5⟩ hH' ⟨rfl, rfl, rfl, rfl, rfl, rfl, rfl, rfl, rfl, rfl, rfl, rfl, rfl, harr, hs2⟩ rfl rfl rfl rfl rfl rfl
theorem s6_solve {L : ZL} {H : List ZL} {d : ZC} {q : Nat × Nat} {mb : Nat} {t_core_most t_core_ranked_items t_core_ranked_room t_now_load_items t_now_load_room t_now_load_most : Int32} {t_core_ranked_weights t_core_ranked_profits t_now_load_weights t_now_load_profits : Nat → Int32} {post : Int32 → Int32 → Int32 → Int32 → Int32 → Int32 → Int32 → Int64 → Int32 → Int32 → (Nat → Int32) → (Nat → Int32) → (Nat → Int32) → (Nat → Int32) → Int32 → (Nat → Int32) → Nat → (Nat → Int32) → Nat → (Nat → Int64) → Nat → (Nat → Int32) → Nat → (Nat → Int32) → Nat → (Nat → Int64) → Nat → (Nat → Nat → Int32) → (Nat → Nat → Int32) → Prop} {t_acts t_core_from t_core_to t_core_steps t_core_bestWeight t_core_bestProfit : Int32} {t_core_bestBits : Int64} {t_core_sets_size t_core_spare_size : Int32} {t_past_items t_past_room t_past_most t_past_steps : Nat → Int32} {t_now_load_steps : Int32} {t_core_sets_weights t_core_sets_profits : Nat → Int32} {t_core_sets_bits : Nat → Int64} {t_core_spare_profits t_core_spare_weights : Nat → Int32} {t_core_spare_bits : Nat → Int64} {t_past_weights t_past_profits : Nat → Nat → Int32} {t_core_ranked_breakPlace t_core_ranked_breakWeight t_core_ranked_breakProfit : Int32} {t_core_ranked_itemAt t_core_ranked_placeOf : Nat → Int32} (hl : l_lim L) (hx : x_L L t_now_load_items t_now_load_room t_now_load_most t_now_load_steps t_now_load_weights t_now_load_profits) (hH : x_past H t_acts t_past_items t_past_room t_past_most t_past_steps t_past_weights t_past_profits) (ha : l_at L d) (hd : l_core L d t_core_most t_core_from t_core_to t_core_steps t_core_bestWeight t_core_bestProfit t_core_bestBits t_core_ranked_items t_core_ranked_room t_core_ranked_breakPlace t_core_ranked_breakWeight t_core_ranked_breakProfit t_core_sets_size t_core_ranked_itemAt t_core_ranked_placeOf t_core_ranked_weights t_core_ranked_profits t_core_sets_weights t_core_sets_profits t_core_sets_bits) (hq : z_q q d) (hmb : 6 * (z_sum (l_wce L d q) - z_sum q) ≤ mb)
    (h1 : (l_end L d).2.2.1 ≠ L.2.2.2.2.2 → z_q (l_wce L d q) (l_end L d) → ∀ (r t_acts' t_core_from' t_core_to' t_core_steps' t_core_bestWeight' t_core_bestProfit' : Int32) (t_core_bestBits' : Int64) (t_core_sets_size' t_core_spare_size' : Int32) (t_past_items' t_past_room' t_past_most' t_past_steps' : Nat → Int32) (t_now_load_steps' : Int32) (t_core_sets_weights' : Nat → Int32) (n_t_core_sets_weights' : Nat) (t_core_sets_profits' : Nat → Int32) (n_t_core_sets_profits' : Nat) (t_core_sets_bits' : Nat → Int64) (n_t_core_sets_bits' : Nat) (t_core_spare_profits' : Nat → Int32) (n_t_core_spare_profits' : Nat) (t_core_spare_weights' : Nat → Int32) (n_t_core_spare_weights' : Nat) (t_core_spare_bits' : Nat → Int64) (n_t_core_spare_bits' : Nat) (t_past_weights' t_past_profits' : Nat → Nat → Int32), r = nI ((l_end L d).2.2.1 - L.2.2.2.2.2) → x_L (l_K L (l_end L d).2.2.1) t_now_load_items t_now_load_room t_now_load_most t_now_load_steps' t_now_load_weights t_now_load_profits → x_past (z_keep H L) t_acts' t_past_items' t_past_room' t_past_most' t_past_steps' t_past_weights' t_past_profits' → l_core (l_K L (l_end L d).2.2.1) (l_end L d) t_core_most t_core_from' t_core_to' t_core_steps' t_core_bestWeight' t_core_bestProfit' t_core_bestBits' t_core_ranked_items t_core_ranked_room t_core_ranked_breakPlace t_core_ranked_breakWeight t_core_ranked_breakProfit t_core_sets_size' t_core_ranked_itemAt t_core_ranked_placeOf t_core_ranked_weights t_core_ranked_profits t_core_sets_weights' t_core_sets_profits' t_core_sets_bits' → n_t_core_sets_weights' = (l_wce L d q).1 → n_t_core_sets_profits' = (l_wce L d q).1 → n_t_core_sets_bits' = (l_wce L d q).1 → n_t_core_spare_profits' = (l_wce L d q).2 → n_t_core_spare_weights' = (l_wce L d q).2 → n_t_core_spare_bits' = (l_wce L d q).2 → post r t_acts' t_core_from' t_core_to' t_core_steps' t_core_bestWeight' t_core_bestProfit' t_core_bestBits' t_core_sets_size' t_core_spare_size' t_past_items' t_past_room' t_past_most' t_past_steps' t_now_load_steps' t_core_sets_weights' n_t_core_sets_weights' t_core_sets_profits' n_t_core_sets_profits' t_core_sets_bits' n_t_core_sets_bits' t_core_spare_profits' n_t_core_spare_profits' t_core_spare_weights' n_t_core_spare_weights' t_core_spare_bits' n_t_core_spare_bits' t_past_weights' t_past_profits')
    (h0 : (l_end L d).2.2.1 = L.2.2.2.2.2 → z_q (l_wce L d q) d → ∀ (r t_acts' t_core_from' t_core_to' t_core_steps' t_core_bestWeight' t_core_bestProfit' : Int32) (t_core_bestBits' : Int64) (t_core_sets_size' t_core_spare_size' : Int32) (t_past_items' t_past_room' t_past_most' t_past_steps' : Nat → Int32) (t_now_load_steps' : Int32) (t_core_sets_weights' : Nat → Int32) (n_t_core_sets_weights' : Nat) (t_core_sets_profits' : Nat → Int32) (n_t_core_sets_profits' : Nat) (t_core_sets_bits' : Nat → Int64) (n_t_core_sets_bits' : Nat) (t_core_spare_profits' : Nat → Int32) (n_t_core_spare_profits' : Nat) (t_core_spare_weights' : Nat → Int32) (n_t_core_spare_weights' : Nat) (t_core_spare_bits' : Nat → Int64) (n_t_core_spare_bits' : Nat) (t_past_weights' t_past_profits' : Nat → Nat → Int32), r = -1 → x_L L t_now_load_items t_now_load_room t_now_load_most t_now_load_steps' t_now_load_weights t_now_load_profits → x_past H t_acts' t_past_items' t_past_room' t_past_most' t_past_steps' t_past_weights' t_past_profits' → l_core L d t_core_most t_core_from' t_core_to' t_core_steps' t_core_bestWeight' t_core_bestProfit' t_core_bestBits' t_core_ranked_items t_core_ranked_room t_core_ranked_breakPlace t_core_ranked_breakWeight t_core_ranked_breakProfit t_core_sets_size' t_core_ranked_itemAt t_core_ranked_placeOf t_core_ranked_weights t_core_ranked_profits t_core_sets_weights' t_core_sets_profits' t_core_sets_bits' → n_t_core_sets_weights' = (l_wce L d q).1 → n_t_core_sets_profits' = (l_wce L d q).1 → n_t_core_sets_bits' = (l_wce L d q).1 → n_t_core_spare_profits' = (l_wce L d q).2 → n_t_core_spare_weights' = (l_wce L d q).2 → n_t_core_spare_bits' = (l_wce L d q).2 → post r t_acts' t_core_from' t_core_to' t_core_steps' t_core_bestWeight' t_core_bestProfit' t_core_bestBits' t_core_sets_size' t_core_spare_size' t_past_items' t_past_room' t_past_most' t_past_steps' t_now_load_steps' t_core_sets_weights' n_t_core_sets_weights' t_core_sets_profits' n_t_core_sets_profits' t_core_sets_bits' n_t_core_sets_bits' t_core_spare_profits' n_t_core_spare_profits' t_core_spare_weights' n_t_core_spare_weights' t_core_spare_bits' n_t_core_spare_bits' t_past_weights' t_past_profits') :
    wX6_solve mb t_core_most t_core_ranked_items t_core_ranked_room t_now_load_items t_now_load_room t_now_load_most t_core_ranked_weights t_core_ranked_profits t_now_load_weights t_now_load_profits post t_acts t_core_from t_core_to t_core_steps t_core_bestWeight t_core_bestProfit t_core_bestBits t_core_sets_size t_core_spare_size t_past_items t_past_room t_past_most t_past_steps t_now_load_steps t_core_sets_weights q.1 t_core_sets_profits q.1 t_core_sets_bits q.1 t_core_spare_profits q.2 t_core_spare_weights q.2 t_core_spare_bits q.2 t_past_weights t_past_profits := by
  obtain ⟨hok, hK⟩ := ha.ok hl
  have hbd := z_lim_bd hl 60
  have hcn := z_c60 hl.1
  have hx' := hx
  obtain ⟨l1, l2, l3, l4, l5, l6, l7⟩ := id hl
  obtain ⟨rfl, rfl, rfl, rfl, rfl, rfl, rfl, rfl, rfl, rfl, rfl, rfl, rfl, harr, hset⟩ := hd
  obtain ⟨hqe, -⟩ := z_wce_ok (k := 60) l7 hok hq
  have hoke : l_okc L (l_end L d) := z_end_ok hok
  have hlime := hoke.1
  have hlimd := hok.1
  obtain ⟨i, -, hi, hie⟩ := z_end_run (k := 60) ha
  have hie' : (l_end L d).2.2.1 + L.2.2.2.2.2 = d.2.2.1 + i := hie
  unfold wX6_solve
  refine ⟨6 * (z_sum (l_wce L d q) - z_sum q), by omega, ?_⟩
  refine s0_widenToTheEnd hbd harr.2.2 hok l7 (by omega) hq hset (Nat.le_refl _) (fun d2 sz sw sp sb sp2 sw2 sb2 he hs2 => ?_)
  have he' : d2 = l_end L d := he
  subst he'
  unfold wX6_solve_15
  rw [nI_eq (by omega) (by omega)]
  refine ⟨fun g => ?_, fun g => ?_⟩
  · have e : l_end L d = d := z_end_same g
    have h00 := h0 (by rw [g, hK])
    have hqe' : z_q (l_wce L d q) d := by have := hqe; rw [show z_end (z_c 60 L.1) (z_w 60 L.2.1 L.2.2.1 L.1) (z_p 60 L.2.1 L.2.2.1 L.1) L.2.2.2.1 L.2.2.2.2.1 60 d = d from e] at this; exact this
    rw [e] at hs2 ⊢
    exact h00 hqe' _ _ _ _ _ _ _ _ _ _ _ _ _ _ _ _ _ _ _ _ _ _ _ _ _ _ _ _ _ rfl hx' hH ⟨rfl, rfl, rfl, rfl, rfl, rfl, rfl, rfl, rfl, rfl, rfl, rfl, rfl, harr, hs2⟩ rfl rfl rfl rfl rfl rfl
  · refine s6_remember l1 hx' hH (fun acts' pi pr pm pst pw pp hH' => ?_)
    unfold wX6_solve_33
    obtain ⟨x1, x2, x3, x4, x5⟩ := hx'
    exact h1 (by rw [← hK]; exact g) hqe _ _ _ _ _ _ _ _ _ _ _ _ _ _ _ _ _ _ _ _ _ _ _ _ _ _ _ _ _ (by rw [← hK]; exact nI_sub (by omega)) ⟨x1, x2, x3, rfl, x5⟩ hH' ⟨rfl, rfl, rfl, rfl, rfl, rfl, rfl, rfl, rfl, rfl, rfl, rfl, rfl, harr, hs2⟩ rfl rfl rfl rfl rfl rfl
theorem s6_undo {L L' : ZL} {G : List ZL} {d : ZC} {q : Nat × Nat} {mb : Nat} {t_past_items t_past_room t_past_most t_past_steps : Nat → Int32} {t_past_weights t_past_profits : Nat → Nat → Int32} {post : Int32 → Int32 → Int32 → Int32 → Int32 → Int32 → Int32 → Int32 → Int32 → Int32 → Int32 → Int32 → Int32 → Int64 → Int32 → Int32 → Int32 → Int32 → Int32 → Int32 → Int32 → (Nat → Int32) → (Nat → Int32) → (Nat → Int32) → (Nat → Int32) → (Nat → Int32) → (Nat → Int32) → (Nat → Int32) → Nat → (Nat → Int32) → Nat → (Nat → Int64) → Nat → (Nat → Int32) → Nat → (Nat → Int32) → Nat → (Nat → Int64) → Nat → Prop} {t_acts t_frontState t_now_load_items t_now_load_room t_now_load_most t_now_load_steps t_core_most t_core_from t_core_to t_core_steps t_core_bestWeight t_core_bestProfit : Int32} {t_core_bestBits : Int64} {t_core_ranked_items t_core_ranked_room t_core_ranked_breakPlace t_core_ranked_breakWeight t_core_ranked_breakProfit t_core_sets_size t_core_spare_size : Int32} {t_now_load_weights t_now_load_profits t_core_ranked_itemAt t_core_ranked_placeOf t_core_ranked_weights t_core_ranked_profits t_core_sets_weights t_core_sets_profits : Nat → Int32} {t_core_sets_bits : Nat → Int64} {t_core_spare_profits t_core_spare_weights : Nat → Int32} {t_core_spare_bits : Nat → Int64} (hl : l_lim L') (hd : l_at L' d) (hx : x_L L t_now_load_items t_now_load_room t_now_load_most t_now_load_steps t_now_load_weights t_now_load_profits) (hH : x_past (G ++ [L']) t_acts t_past_items t_past_room t_past_most t_past_steps t_past_weights t_past_profits) (h1 : z_pw q.1) (h2 : z_pw q.2) (hmb : 6 * (z_sum (l_wcr L' q) - z_sum q) ≤ mb)
    (hk : ∀ (r t_acts' t_frontState' t_now_load_items' t_now_load_room' t_now_load_most' t_now_load_steps' t_core_most' t_core_from' t_core_to' t_core_steps' t_core_bestWeight' t_core_bestProfit' : Int32) (t_core_bestBits' : Int64) (t_core_ranked_items' t_core_ranked_room' t_core_ranked_breakPlace' t_core_ranked_breakWeight' t_core_ranked_breakProfit' t_core_sets_size' t_core_spare_size' : Int32) (t_now_load_weights' t_now_load_profits' t_core_ranked_itemAt' t_core_ranked_placeOf' t_core_ranked_weights' t_core_ranked_profits' t_core_sets_weights' : Nat → Int32) (n_t_core_sets_weights' : Nat) (t_core_sets_profits' : Nat → Int32) (n_t_core_sets_profits' : Nat) (t_core_sets_bits' : Nat → Int64) (n_t_core_sets_bits' : Nat) (t_core_spare_profits' : Nat → Int32) (n_t_core_spare_profits' : Nat) (t_core_spare_weights' : Nat → Int32) (n_t_core_spare_weights' : Nat) (t_core_spare_bits' : Nat → Int64) (n_t_core_spare_bits' : Nat), r = nI G.length → x_L L' t_now_load_items' t_now_load_room' t_now_load_most' t_now_load_steps' t_now_load_weights' t_now_load_profits' → x_past G t_acts' t_past_items t_past_room t_past_most t_past_steps t_past_weights t_past_profits → t_frontState' = 0 → l_core L' d t_core_most' t_core_from' t_core_to' t_core_steps' t_core_bestWeight' t_core_bestProfit' t_core_bestBits' t_core_ranked_items' t_core_ranked_room' t_core_ranked_breakPlace' t_core_ranked_breakWeight' t_core_ranked_breakProfit' t_core_sets_size' t_core_ranked_itemAt' t_core_ranked_placeOf' t_core_ranked_weights' t_core_ranked_profits' t_core_sets_weights' t_core_sets_profits' t_core_sets_bits' → n_t_core_sets_weights' = (l_wcr L' q).1 → n_t_core_sets_profits' = (l_wcr L' q).1 → n_t_core_sets_bits' = (l_wcr L' q).1 → n_t_core_spare_profits' = (l_wcr L' q).2 → n_t_core_spare_weights' = (l_wcr L' q).2 → n_t_core_spare_bits' = (l_wcr L' q).2 → post r t_acts' t_frontState' t_now_load_items' t_now_load_room' t_now_load_most' t_now_load_steps' t_core_most' t_core_from' t_core_to' t_core_steps' t_core_bestWeight' t_core_bestProfit' t_core_bestBits' t_core_ranked_items' t_core_ranked_room' t_core_ranked_breakPlace' t_core_ranked_breakWeight' t_core_ranked_breakProfit' t_core_sets_size' t_core_spare_size' t_now_load_weights' t_now_load_profits' t_core_ranked_itemAt' t_core_ranked_placeOf' t_core_ranked_weights' t_core_ranked_profits' t_core_sets_weights' n_t_core_sets_weights' t_core_sets_profits' n_t_core_sets_profits' t_core_sets_bits' n_t_core_sets_bits' t_core_spare_profits' n_t_core_spare_profits' t_core_spare_weights' n_t_core_spare_weights' t_core_spare_bits' n_t_core_spare_bits') :
    wX6_undo mb t_past_items t_past_room t_past_most t_past_steps t_past_weights t_past_profits post t_acts t_frontState t_now_load_items t_now_load_room t_now_load_most t_now_load_steps t_core_most t_core_from t_core_to t_core_steps t_core_bestWeight t_core_bestProfit t_core_bestBits t_core_ranked_items t_core_ranked_room t_core_ranked_breakPlace t_core_ranked_breakWeight t_core_ranked_breakProfit t_core_sets_size t_core_spare_size t_now_load_weights t_now_load_profits t_core_ranked_itemAt t_core_ranked_placeOf t_core_ranked_weights t_core_ranked_profits t_core_sets_weights q.1 t_core_sets_profits q.1 t_core_sets_bits q.1 t_core_spare_profits q.2 t_core_spare_weights q.2 t_core_spare_bits q.2 := by
  obtain ⟨rfl, h8, hr⟩ := hH
  rw [List.length_append] at h8
  have h8' : G.length + 1 ≤ 8 := h8
  have hlen : (G ++ [L']).length = G.length + 1 := by rw [List.length_append]; rfl
  have hlast := hr G.length (by rw [hlen]; omega)
  rw [List.getElem_append_right (Nat.le_refl _)] at hlast
  simp only [Nat.sub_self, List.getElem_cons_zero] at hlast
  rw [hlen]
  have go : ∀ m, m = G.length → wX1_copyFrom (t_past_items m) (t_past_room m) (t_past_most m) (t_past_steps m) (t_past_weights m) (t_past_profits m) (fun m36_0 m36_1 m36_2 m36_3 m36_4 m36_5 => wX6_undo_39 mb t_past_items t_past_room t_past_most t_past_steps t_past_weights t_past_profits post 0 (nI G.length) t_frontState m36_0 m36_1 m36_2 m36_3 t_core_most t_core_from t_core_to t_core_steps t_core_bestWeight t_core_bestProfit t_core_bestBits t_core_ranked_items t_core_ranked_room t_core_ranked_breakPlace t_core_ranked_breakWeight t_core_ranked_breakProfit t_core_sets_size t_core_spare_size m36_4 m36_5 t_core_ranked_itemAt t_core_ranked_placeOf t_core_ranked_weights t_core_ranked_profits t_core_sets_weights q.1 t_core_sets_profits q.1 t_core_sets_bits q.1 t_core_spare_profits q.2 t_core_spare_weights q.2 t_core_spare_bits q.2) t_now_load_items t_now_load_room t_now_load_most t_now_load_steps t_now_load_weights t_now_load_profits := by
    intro m hm
    subst hm
    refine s1_copyFrom hl.1 hlast (fun i r mm s ws ps hxx => ?_)
    unfold wX6_undo_39
    refine ⟨6 * (z_sum (l_wcr L' q) - z_sum q), by omega, ?_⟩
    refine s6_makeCoreAnew hl hd hxx h1 h2 (Nat.le_refl _) ?_
    intro fs' a1 a2 a3 a4 a5 a6 a7 a8 a9 a10 a11 a12 a13 a14 a15 a16 a17 a18 a19 b1 a20 b2 a21 b3 a22 b4 a23 b5 a24 b6 ef hcore n1 n2 n3 n4 n5 n6
    refine hk _ _ _ _ _ _ _ _ _ _ _ _ _ _ _ _ _ _ _ _ _ _ _ _ _ _ _ _ _ _ _ _ _ _ _ _ _ _ _ rfl hxx ⟨rfl, by omega, fun k hk' => ?_⟩ ef hcore n1 n2 n3 n4 n5 n6
    have := hr k (by rw [hlen]; omega)
    rw [List.getElem_append_left hk'] at this
    exact this
  have ez : ∀ j, j < 2 ^ 31 → nI G.length = nI j → j = G.length := fun j hj h => ((nI_eq (by omega) hj).mp h).symm
  unfold wX6_undo
  have e1 : nI (G.length + 1) - 1 = nI G.length := nI_sub (a := G.length + 1) (b := 1) (by omega)
  rw [e1]
  refine ⟨fun _ => ?_, fun z => absurd (by rw [show (1 : Int32) = nI 1 from rfl, nI_leI (by omega) (by omega)]; omega) z⟩
  refine ⟨fun h => go 0 (ez 0 (by omega) h), fun h0 => ⟨fun h => go 1 (ez 1 (by omega) h), fun h1 => ⟨fun h => go 2 (ez 2 (by omega) h), fun h2 => ⟨fun h => go 3 (ez 3 (by omega) h), fun h3 => ⟨fun h => go 4 (ez 4 (by omega) h), fun h4 => ⟨fun h => go 5 (ez 5 (by omega) h), fun h5 => ⟨fun h => go 6 (ez 6 (by omega) h), fun h6 => ⟨fun h => go 7 (ez 7 (by omega) h), fun h7 => ?_⟩⟩⟩⟩⟩⟩⟩⟩
  have nz : ∀ j, ¬ nI G.length = nI j → G.length ≠ j := fun j h e => h (by rw [e])
  have := nz 0 h0
  have := nz 1 h1
  have := nz 2 h2
  have := nz 3 h3
  have := nz 4 h4
  have := nz 5 h5
  have := nz 6 h6
  have := nz 7 h7
  omega
