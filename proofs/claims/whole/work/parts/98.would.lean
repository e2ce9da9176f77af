/-! what would be: other, without, with, ahead -/
abbrev z_wco (e n : Nat) (W P : Nat → Nat) (R M : Nat) (q : Nat × Nat) : Nat × Nat := z_wce (z_c e n) (z_w e W P n) (z_p e W P n) R M 60 (z_begin (z_c e n) (z_w e W P n) (z_p e W P n) R) q
theorem z_wco_ok {e n : Nat} {W P : Nat → Nat} {R M : Nat} {q : Nat × Nat} (hM2 : 2 ≤ M) (hM : M ≤ 1000) (h1 : z_pw q.1) (h2 : z_pw q.2) : (z_pw (z_wco e n W P R M q).1 ∧ z_pw (z_wco e n W P R M q).2) ∧ z_sum q ≤ z_sum (z_wco e n W P R M q) := by
  obtain ⟨a, b⟩ := z_wce_ok (k := 60) (n := z_c e n) (w := z_w e W P n) (p := z_p e W P n) (R := R) (M := M) (c := z_begin (z_c e n) (z_w e W P n) (z_p e W P n) R) hM (z_begin_ok (by omega)) (z_begin_q h1 h2)
  exact ⟨⟨a.1, a.2.1⟩, b⟩
def z_ov (e n : Nat) (W P : Nat → Nat) (R M : Nat) : Int32 := if z_proved (z_c e n) (z_opt e n W P R M) = true then nI (z_opt e n W P R M).2.2.2.2.2.1 else -1
theorem z_opt_lt {e n : Nat} {W P : Nat → Nat} {R M : Nat} (hl : z_lim n W P R M) : (z_opt e n W P R M).2.2.2.2.2.1 < 2 ^ 31 := by
  have h := z_end_ok (k := 60) (z_begin_ok (n := z_c e n) (w := z_w e W P n) (p := z_p e W P n) (R := R) (M := M) (by have := hl.2.2.2.2.2.1; omega))
  exact (z_in_lt (z_lim_bd hl e) (Nat.le_refl _) h.2.2.2.2.1).2.1
theorem s6_optimumOfSupposed {e n : Nat} {W P : Nat → Nat} {R M : Nat} {q : Nat × Nat} {mb : Nat} {t_supposed_profits t_supposed_weights : Nat → Int32} {post : Int32 → Int32 → Int32 → Int32 → Int32 → Int32 → Int32 → Int32 → Int64 → Int32 → Int32 → Int32 → Int32 → Int32 → Int32 → Int32 → (Nat → Int32) → (Nat → Int32) → (Nat → Int32) → (Nat → Int32) → (Nat → Int32) → Nat → (Nat → Int32) → Nat → (Nat → Int64) → Nat → (Nat → Int32) → Nat → (Nat → Int32) → Nat → (Nat → Int64) → Nat → Prop} {t_supposed_room t_trial_most t_trial_from t_trial_to t_trial_steps t_trial_bestWeight t_trial_bestProfit : Int32} {t_trial_bestBits : Int64} {t_trial_ranked_items t_trial_ranked_room t_trial_ranked_breakPlace t_trial_ranked_breakWeight t_trial_ranked_breakProfit t_trial_sets_size t_trial_spare_size : Int32} {t_trial_ranked_itemAt t_trial_ranked_placeOf t_trial_ranked_weights t_trial_ranked_profits t_trial_sets_weights t_trial_sets_profits : Nat → Int32} {t_trial_sets_bits : Nat → Int64} {t_trial_spare_profits t_trial_spare_weights : Nat → Int32} {t_trial_spare_bits : Nat → Int64} (hA : x_ld e n W P t_supposed_weights t_supposed_profits) (hR : R < 2 ^ 31) (hM2 : 2 ≤ M) (hM1 : M ≤ 1000) (h1 : z_pw q.1) (h2 : z_pw q.2) (hmb : 6 * (z_sum (z_wco e n W P R M q) - z_sum q) ≤ mb)
    (hk : ∀ (r t_supposed_room' t_trial_most' t_trial_from' t_trial_to' t_trial_steps' t_trial_bestWeight' t_trial_bestProfit' : Int32) (t_trial_bestBits' : Int64) (t_trial_ranked_items' t_trial_ranked_room' t_trial_ranked_breakPlace' t_trial_ranked_breakWeight' t_trial_ranked_breakProfit' t_trial_sets_size' t_trial_spare_size' : Int32) (t_trial_ranked_itemAt' t_trial_ranked_placeOf' t_trial_ranked_weights' t_trial_ranked_profits' t_trial_sets_weights' : Nat → Int32) (n_t_trial_sets_weights' : Nat) (t_trial_sets_profits' : Nat → Int32) (n_t_trial_sets_profits' : Nat) (t_trial_sets_bits' : Nat → Int64) (n_t_trial_sets_bits' : Nat) (t_trial_spare_profits' : Nat → Int32) (n_t_trial_spare_profits' : Nat) (t_trial_spare_weights' : Nat → Int32) (n_t_trial_spare_weights' : Nat) (t_trial_spare_bits' : Nat → Int64) (n_t_trial_spare_bits' : Nat), r = z_ov e n W P R M → n_t_trial_sets_weights' = (z_wco e n W P R M q).1 → n_t_trial_sets_profits' = (z_wco e n W P R M q).1 → n_t_trial_sets_bits' = (z_wco e n W P R M q).1 → n_t_trial_spare_profits' = (z_wco e n W P R M q).2 → n_t_trial_spare_weights' = (z_wco e n W P R M q).2 → n_t_trial_spare_bits' = (z_wco e n W P R M q).2 →  post r t_supposed_room' t_trial_most' t_trial_from' t_trial_to' t_trial_steps' t_trial_bestWeight' t_trial_bestProfit' t_trial_bestBits' t_trial_ranked_items' t_trial_ranked_room' t_trial_ranked_breakPlace' t_trial_ranked_breakWeight' t_trial_ranked_breakProfit' t_trial_sets_size' t_trial_spare_size' t_trial_ranked_itemAt' t_trial_ranked_placeOf' t_trial_ranked_weights' t_trial_ranked_profits' t_trial_sets_weights' n_t_trial_sets_weights' t_trial_sets_profits' n_t_trial_sets_profits' t_trial_sets_bits' n_t_trial_sets_bits' t_trial_spare_profits' n_t_trial_spare_profits' t_trial_spare_weights' n_t_trial_spare_weights' t_trial_spare_bits' n_t_trial_spare_bits') :
    wX6_optimumOfSupposed mb (nI (z_c e n)) (nI M) t_supposed_profits t_supposed_weights post t_supposed_room t_trial_most t_trial_from t_trial_to t_trial_steps t_trial_bestWeight t_trial_bestProfit t_trial_bestBits t_trial_ranked_items t_trial_ranked_room t_trial_ranked_breakPlace t_trial_ranked_breakWeight t_trial_ranked_breakProfit t_trial_sets_size t_trial_spare_size t_trial_ranked_itemAt t_trial_ranked_placeOf t_trial_ranked_weights t_trial_ranked_profits t_trial_sets_weights q.1 t_trial_sets_profits q.1 t_trial_sets_bits q.1 t_trial_spare_profits q.2 t_trial_spare_weights q.2 t_trial_spare_bits q.2 (nI R) := by
  have hbd := hA.bd
  have hn := hbd.1
  unfold wX6_optimumOfSupposed
  refine s0_begin hA hR h1 (fun itemAt placeOf tw tp sw sp sb ha hs => ?_)
  unfold wX6_optimumOfSupposed_19
  refine ⟨6 * (z_sum (z_wco e n W P R M q) - z_sum q), by omega, ?_⟩
  have hok := z_begin_ok (n := z_c e n) (w := z_w e W P n) (p := z_p e W P n) (R := R) (M := M) (by omega)
  refine s0_widenToTheEnd hbd ha.2.2 hok hM1 hR (z_begin_q h1 h2) hs (Nat.le_refl _) (fun d2 sz sw sp sb sp2 sw2 sb2 he hs2 => ?_)
  have he' : d2 = z_opt e n W P R M := he
  subst he'
  have hoke := z_end_ok (k := 60) hok
  have hlim := hoke.1
  unfold wX6_optimumOfSupposed_26
  have hl2 : (z_opt e n W P R M).1 ≤ (z_opt e n W P R M).2.1 ∧ (z_opt e n W P R M).2.1 ≤ z_c e n := ⟨hlim.1, hlim.2.1⟩
  refine s0_isProved hn (by omega) (by omega) (Nat.le_trans hoke.2.2.2.1 hM1) (fun h => ?_) (fun h => ?_)
  · have hp : z_proved (z_c e n) (z_opt e n W P R M) = true := by unfold z_proved; rw [decide_eq_true_iff]; exact h
    unfold wX6_optimumOfSupposed_34
    refine ⟨fun z => absurd z (by decide), fun _ => hk _ _ _ _ _ _ _ _ _ _ _ _ _ _ _ _ _ _ _ _ _ _ _ _ _ _ _ _ _ _ _ _ ?_ rfl rfl rfl rfl rfl rfl⟩
    unfold z_ov
    rw [if_pos hp]
  · have hp : ¬ z_proved (z_c e n) (z_opt e n W P R M) = true := by unfold z_proved; rw [decide_eq_true_iff]; exact h
    unfold wX6_optimumOfSupposed_34
    refine ⟨fun _ => hk _ _ _ _ _ _ _ _ _ _ _ _ _ _ _ _ _ _ _ _ _ _ _ _ _ _ _ _ _ _ _ _ ?_ rfl rfl rfl rfl rfl rfl, fun z => absurd rfl z⟩
    unfold z_ov
    rw [if_neg hp]
theorem s6_optS {e n N : Nat} {W P : Nat → Nat} {R M : Nat} {q : Nat × Nat} {mb : Nat} {t_supposed_profits t_supposed_weights : Nat → Int32} {post : Int32 → Int32 → Int32 → Int32 → Int32 → Int32 → Int32 → Int32 → Int64 → Int32 → Int32 → Int32 → Int32 → Int32 → Int32 → Int32 → (Nat → Int32) → (Nat → Int32) → (Nat → Int32) → (Nat → Int32) → (Nat → Int32) → Nat → (Nat → Int32) → Nat → (Nat → Int64) → Nat → (Nat → Int32) → Nat → (Nat → Int32) → Nat → (Nat → Int64) → Nat → Prop} {t_supposed_room t_trial_most t_trial_from t_trial_to t_trial_steps t_trial_bestWeight t_trial_bestProfit : Int32} {t_trial_bestBits : Int64} {t_trial_ranked_items t_trial_ranked_room t_trial_ranked_breakPlace t_trial_ranked_breakWeight t_trial_ranked_breakProfit t_trial_sets_size t_trial_spare_size : Int32} {t_trial_ranked_itemAt t_trial_ranked_placeOf t_trial_ranked_weights t_trial_ranked_profits t_trial_sets_weights t_trial_sets_profits : Nat → Int32} {t_trial_sets_bits : Nat → Int64} {t_trial_spare_profits t_trial_spare_weights : Nat → Int32} {t_trial_spare_bits : Nat → Int64} (hN : N = z_c e n) (hA : x_ld e n W P t_supposed_weights t_supposed_profits) (hR : R < 2 ^ 31) (hM2 : 2 ≤ M) (hM1 : M ≤ 1000) (h1 : z_pw q.1) (h2 : z_pw q.2) (hmb : 6 * (z_sum (z_wco e n W P R M q) - z_sum q) ≤ mb)
    (hk : ∀ (r t_supposed_room' t_trial_most' t_trial_from' t_trial_to' t_trial_steps' t_trial_bestWeight' t_trial_bestProfit' : Int32) (t_trial_bestBits' : Int64) (t_trial_ranked_items' t_trial_ranked_room' t_trial_ranked_breakPlace' t_trial_ranked_breakWeight' t_trial_ranked_breakProfit' t_trial_sets_size' t_trial_spare_size' : Int32) (t_trial_ranked_itemAt' t_trial_ranked_placeOf' t_trial_ranked_weights' t_trial_ranked_profits' t_trial_sets_weights' : Nat → Int32) (n_t_trial_sets_weights' : Nat) (t_trial_sets_profits' : Nat → Int32) (n_t_trial_sets_profits' : Nat) (t_trial_sets_bits' : Nat → Int64) (n_t_trial_sets_bits' : Nat) (t_trial_spare_profits' : Nat → Int32) (n_t_trial_spare_profits' : Nat) (t_trial_spare_weights' : Nat → Int32) (n_t_trial_spare_weights' : Nat) (t_trial_spare_bits' : Nat → Int64) (n_t_trial_spare_bits' : Nat), r = z_ov e n W P R M → n_t_trial_sets_weights' = (z_wco e n W P R M q).1 → n_t_trial_sets_profits' = (z_wco e n W P R M q).1 → n_t_trial_sets_bits' = (z_wco e n W P R M q).1 → n_t_trial_spare_profits' = (z_wco e n W P R M q).2 → n_t_trial_spare_weights' = (z_wco e n W P R M q).2 → n_t_trial_spare_bits' = (z_wco e n W P R M q).2 →  post r t_supposed_room' t_trial_most' t_trial_from' t_trial_to' t_trial_steps' t_trial_bestWeight' t_trial_bestProfit' t_trial_bestBits' t_trial_ranked_items' t_trial_ranked_room' t_trial_ranked_breakPlace' t_trial_ranked_breakWeight' t_trial_ranked_breakProfit' t_trial_sets_size' t_trial_spare_size' t_trial_ranked_itemAt' t_trial_ranked_placeOf' t_trial_ranked_weights' t_trial_ranked_profits' t_trial_sets_weights' n_t_trial_sets_weights' t_trial_sets_profits' n_t_trial_sets_profits' t_trial_sets_bits' n_t_trial_sets_bits' t_trial_spare_profits' n_t_trial_spare_profits' t_trial_spare_weights' n_t_trial_spare_weights' t_trial_spare_bits' n_t_trial_spare_bits') :
    wX6_optimumOfSupposed mb (nI N) (nI M) t_supposed_profits t_supposed_weights post t_supposed_room t_trial_most t_trial_from t_trial_to t_trial_steps t_trial_bestWeight t_trial_bestProfit t_trial_bestBits t_trial_ranked_items t_trial_ranked_room t_trial_ranked_breakPlace t_trial_ranked_breakWeight t_trial_ranked_breakProfit t_trial_sets_size t_trial_spare_size t_trial_ranked_itemAt t_trial_ranked_placeOf t_trial_ranked_weights t_trial_ranked_profits t_trial_sets_weights q.1 t_trial_sets_profits q.1 t_trial_sets_bits q.1 t_trial_spare_profits q.2 t_trial_spare_weights q.2 t_trial_spare_bits q.2 (nI R) := by
  subst hN
  exact s6_optimumOfSupposed hA hR hM2 hM1 h1 h2 hmb hk
/-- a room that is told -/
def z_other (L : ZL) (v r : Int32) : Prop := (∃ R, v = nI R ∧ R ≤ 2000000000 ∧ r = z_ov 60 L.1 L.2.1 L.2.2.1 R L.2.2.2.2.1) ∨ (¬ (∃ R, v = nI R ∧ R ≤ 2000000000) ∧ r = -1)
theorem z_other_un {L : ZL} {v a b : Int32} (ha : z_other L v a) (hb : z_other L v b) : a = b := by
  rcases ha with ⟨i, rfl, hi, rfl⟩ | ⟨h, rfl⟩
  · rcases hb with ⟨j, e, hj, rfl⟩ | ⟨h, rfl⟩
    · rw [nI_eq (by omega) (by omega)] at e
      rw [e]
    · exact absurd ⟨i, rfl, hi⟩ h
  · rcases hb with ⟨j, e, hj, eb⟩ | ⟨_, rfl⟩
    · exact absurd ⟨j, e, hj⟩ h
    · rfl
/-- the rows' lengths behind it -/
noncomputable def z_oq (e : Nat) (L : ZL) (v : Int32) (q : Nat × Nat) : Nat × Nat := @ite _ (∃ R, v = nI R ∧ R ≤ 2000000000) (Classical.propDecidable _) (z_wco e L.1 L.2.1 L.2.2.1 v.toInt.toNat L.2.2.2.2.1 q) q
theorem z_oq_nI {e : Nat} {L : ZL} {R : Nat} {q : Nat × Nat} (h : R ≤ 2000000000) : z_oq e L (nI R) q = z_wco e L.1 L.2.1 L.2.2.1 R L.2.2.2.2.1 q := by
  unfold z_oq
  rw [if_pos ⟨R, rfl, h⟩, nI_toInt (by omega), Int.toNat_natCast]
theorem x_L.ldE {L : ZL} {i r m s : Int32} {ws ps ws' ps' : Nat → Int32} {e : Nat} (h : x_L L i r m s ws ps) (hl : l_lim L) (he : e < L.1) (hc : ∀ k, k < L.1 - 1 → ws' k = ws (z_u e k) ∧ ps' k = ps (z_u e k)) : x_ld e L.1 L.2.1 L.2.2.1 ws' ps' := by
  obtain ⟨h1, h2, h3, h4, -⟩ := hl
  have hz : z_c e L.1 = L.1 - 1 := by unfold z_c; rw [if_pos he]
  refine ⟨h1, fun i hi => ?_, h2, h3, h4⟩
  rw [(hc i (by omega)).1, (hc i (by omega)).2]
  exact h.2.2.2.2 _ (z_u_lt hi)
theorem s6_other {L : ZL} {q : Nat × Nat} {mb : Nat} {t_now_load_items t_now_load_room t_now_load_most t_now_load_steps : Int32} {t_now_load_weights t_now_load_profits : Nat → Int32} {post : Int32 → Int32 → Int32 → Int32 → Int32 → Int32 → Int32 → Int32 → Int32 → Int32 → Int32 → Int64 → Int32 → Int32 → Int32 → Int32 → Int32 → Int32 → Int32 → (Nat → Int32) → (Nat → Int32) → (Nat → Int32) → (Nat → Int32) → (Nat → Int32) → (Nat → Int32) → (Nat → Int32) → Nat → (Nat → Int32) → Nat → (Nat → Int64) → Nat → (Nat → Int32) → Nat → (Nat → Int32) → Nat → (Nat → Int64) → Nat → Prop} {t_supposed_items t_supposed_room t_supposed_most t_supposed_steps t_trial_most t_trial_from t_trial_to t_trial_steps t_trial_bestWeight t_trial_bestProfit : Int32} {t_trial_bestBits : Int64} {t_trial_ranked_items t_trial_ranked_room t_trial_ranked_breakPlace t_trial_ranked_breakWeight t_trial_ranked_breakProfit t_trial_sets_size t_trial_spare_size : Int32} {t_supposed_weights t_supposed_profits t_trial_ranked_itemAt t_trial_ranked_placeOf t_trial_ranked_weights t_trial_ranked_profits t_trial_sets_weights t_trial_sets_profits : Nat → Int32} {t_trial_sets_bits : Nat → Int64} {t_trial_spare_profits t_trial_spare_weights : Nat → Int32} {t_trial_spare_bits : Nat → Int64} {v1 : Int32} (hl : l_lim L) (hx : x_L L t_now_load_items t_now_load_room t_now_load_most t_now_load_steps t_now_load_weights t_now_load_profits) (h1 : z_pw q.1) (h2 : z_pw q.2) (hmb : 6 * (z_sum (z_oq 60 L v1 q) - z_sum q) ≤ mb)
    (hk : ∀ (r t_supposed_items' t_supposed_room' t_supposed_most' t_supposed_steps' t_trial_most' t_trial_from' t_trial_to' t_trial_steps' t_trial_bestWeight' t_trial_bestProfit' : Int32) (t_trial_bestBits' : Int64) (t_trial_ranked_items' t_trial_ranked_room' t_trial_ranked_breakPlace' t_trial_ranked_breakWeight' t_trial_ranked_breakProfit' t_trial_sets_size' t_trial_spare_size' : Int32) (t_supposed_weights' t_supposed_profits' t_trial_ranked_itemAt' t_trial_ranked_placeOf' t_trial_ranked_weights' t_trial_ranked_profits' t_trial_sets_weights' : Nat → Int32) (n_t_trial_sets_weights' : Nat) (t_trial_sets_profits' : Nat → Int32) (n_t_trial_sets_profits' : Nat) (t_trial_sets_bits' : Nat → Int64) (n_t_trial_sets_bits' : Nat) (t_trial_spare_profits' : Nat → Int32) (n_t_trial_spare_profits' : Nat) (t_trial_spare_weights' : Nat → Int32) (n_t_trial_spare_weights' : Nat) (t_trial_spare_bits' : Nat → Int64) (n_t_trial_spare_bits' : Nat), z_other L v1 r → (z_pw (n_t_trial_sets_weights') ∧ z_pw (n_t_trial_spare_weights')) → ∀ q', q' = (n_t_trial_sets_weights', n_t_trial_spare_weights') → z_sum q ≤ z_sum q' → z_sum q' = z_sum (z_oq 60 L v1 q) → n_t_trial_sets_weights' = (q').1 → n_t_trial_sets_profits' = (q').1 → n_t_trial_sets_bits' = (q').1 → n_t_trial_spare_profits' = (q').2 → n_t_trial_spare_weights' = (q').2 → n_t_trial_spare_bits' = (q').2 →  post r t_supposed_items' t_supposed_room' t_supposed_most' t_supposed_steps' t_trial_most' t_trial_from' t_trial_to' t_trial_steps' t_trial_bestWeight' t_trial_bestProfit' t_trial_bestBits' t_trial_ranked_items' t_trial_ranked_room' t_trial_ranked_breakPlace' t_trial_ranked_breakWeight' t_trial_ranked_breakProfit' t_trial_sets_size' t_trial_spare_size' t_supposed_weights' t_supposed_profits' t_trial_ranked_itemAt' t_trial_ranked_placeOf' t_trial_ranked_weights' t_trial_ranked_profits' t_trial_sets_weights' n_t_trial_sets_weights' t_trial_sets_profits' n_t_trial_sets_profits' t_trial_sets_bits' n_t_trial_sets_bits' t_trial_spare_profits' n_t_trial_spare_profits' t_trial_spare_weights' n_t_trial_spare_weights' t_trial_spare_bits' n_t_trial_spare_bits') :
    wX6_other mb t_now_load_items t_now_load_room t_now_load_most t_now_load_steps t_now_load_weights t_now_load_profits post t_supposed_items t_supposed_room t_supposed_most t_supposed_steps t_trial_most t_trial_from t_trial_to t_trial_steps t_trial_bestWeight t_trial_bestProfit t_trial_bestBits t_trial_ranked_items t_trial_ranked_room t_trial_ranked_breakPlace t_trial_ranked_breakWeight t_trial_ranked_breakProfit t_trial_sets_size t_trial_spare_size t_supposed_weights t_supposed_profits t_trial_ranked_itemAt t_trial_ranked_placeOf t_trial_ranked_weights t_trial_ranked_profits t_trial_sets_weights q.1 t_trial_sets_profits q.1 t_trial_sets_bits q.1 t_trial_spare_profits q.2 t_trial_spare_weights q.2 t_trial_spare_bits q.2 v1 := by
  have hx' := hx
  obtain ⟨rfl, rfl, rfl, rfl, hA⟩ := hx
  obtain ⟨l1, l2, l3, l4, l5, l6, l7⟩ := id hl
  unfold wX6_other
  refine s6_canBeRoom (fun R e hR => ?_) (fun h => ?_)
  · subst e
    rw [z_oq_nI (by omega)] at hk hmb
    unfold wX6_other_5
    refine ⟨fun z => absurd z (by decide), fun _ => ?_⟩
    refine s1_copyFrom l1 hx' (fun i r m s ws ps hxx => ?_)
    have hld := hxx.ld hl
    obtain ⟨rfl, rfl, rfl, rfl, -⟩ := hxx
    unfold wX6_other_24
    refine ⟨6 * (z_sum (z_wco 60 L.1 L.2.1 L.2.2.1 R L.2.2.2.2.1 q) - z_sum q), by omega, ?_⟩
    have hok := z_wco_ok (e := 60) (n := L.1) (W := L.2.1) (P := L.2.2.1) (R := R) l6 l7 h1 h2
    refine s6_optS (e := 60) (z_c60 l1).symm hld (by omega) l6 l7 h1 h2 (Nat.le_refl _) ?_
    intro r sr a1 a2 a3 a4 a5 a6 a7 a8 a9 a10 a11 a12 a13 a14 a15 a16 a17 a18 a19 n1 a20 n2 a21 n3 a22 n4 a23 n5 a24 n6 er e1 e2 e3 e4 e5 e6
    subst e1 e2 e3 e4 e5 e6
    exact hk _ _ _ _ _ _ _ _ _ _ _ _ _ _ _ _ _ _ _ _ _ _ _ _ _ _ _ _ _ _ _ _ _ _ _ _ _ (Or.inl ⟨R, rfl, hR, er⟩) hok.1 _ rfl hok.2 rfl rfl rfl rfl rfl rfl rfl
  · unfold wX6_other_5
    refine ⟨fun _ => hk _ _ _ _ _ _ _ _ _ _ _ _ _ _ _ _ _ _ _ _ _ _ _ _ _ _ _ _ _ _ _ _ _ _ _ _ _ (Or.inr ⟨h, rfl⟩) ⟨h1, h2⟩ q rfl (Nat.le_refl _) ?_ rfl rfl rfl rfl rfl rfl, fun z => absurd rfl z⟩
    unfold z_oq
    rw [if_neg h]
def z_without (L : ZL) (v r : Int32) : Prop := (∃ e, v = nI e ∧ e < L.1 ∧ r = z_ov e L.1 L.2.1 L.2.2.1 L.2.2.2.1 L.2.2.2.2.1) ∨ (¬ (∃ e, v = nI e ∧ e < L.1) ∧ r = -1)
theorem z_without_un {L : ZL} {v a b : Int32} (hl : L.1 ≤ 60) (ha : z_without L v a) (hb : z_without L v b) : a = b := by
  rcases ha with ⟨i, rfl, hi, rfl⟩ | ⟨h, rfl⟩
  · rcases hb with ⟨j, e, hj, rfl⟩ | ⟨h, rfl⟩
    · rw [nI_eq (by omega) (by omega)] at e
      rw [e]
    · exact absurd ⟨i, rfl, hi⟩ h
  · rcases hb with ⟨j, e, hj, eb⟩ | ⟨_, rfl⟩
    · exact absurd ⟨j, e, hj⟩ h
    · rfl
noncomputable def z_wq (L : ZL) (v : Int32) (q : Nat × Nat) : Nat × Nat := @ite _ (∃ e, v = nI e ∧ e < L.1) (Classical.propDecidable _) (z_wco v.toInt.toNat L.1 L.2.1 L.2.2.1 L.2.2.2.1 L.2.2.2.2.1 q) q
theorem s6_without {L : ZL} {q : Nat × Nat} {mb : Nat} {t_now_load_items t_now_load_room t_now_load_most t_now_load_steps : Int32} {t_now_load_weights t_now_load_profits : Nat → Int32} {post : Int32 → Int32 → Int32 → Int32 → Int32 → Int32 → Int32 → Int32 → Int32 → Int32 → Int32 → Int64 → Int32 → Int32 → Int32 → Int32 → Int32 → Int32 → Int32 → (Nat → Int32) → (Nat → Int32) → (Nat → Int32) → (Nat → Int32) → (Nat → Int32) → (Nat → Int32) → (Nat → Int32) → Nat → (Nat → Int32) → Nat → (Nat → Int64) → Nat → (Nat → Int32) → Nat → (Nat → Int32) → Nat → (Nat → Int64) → Nat → Prop} {t_supposed_items t_supposed_room t_supposed_most t_supposed_steps t_trial_most t_trial_from t_trial_to t_trial_steps t_trial_bestWeight t_trial_bestProfit : Int32} {t_trial_bestBits : Int64} {t_trial_ranked_items t_trial_ranked_room t_trial_ranked_breakPlace t_trial_ranked_breakWeight t_trial_ranked_breakProfit t_trial_sets_size t_trial_spare_size : Int32} {t_supposed_weights t_supposed_profits t_trial_ranked_itemAt t_trial_ranked_placeOf t_trial_ranked_weights t_trial_ranked_profits t_trial_sets_weights t_trial_sets_profits : Nat → Int32} {t_trial_sets_bits : Nat → Int64} {t_trial_spare_profits t_trial_spare_weights : Nat → Int32} {t_trial_spare_bits : Nat → Int64} {v1 : Int32} (hl : l_lim L) (hx : x_L L t_now_load_items t_now_load_room t_now_load_most t_now_load_steps t_now_load_weights t_now_load_profits) (h1 : z_pw q.1) (h2 : z_pw q.2) (hmb : 6 * (z_sum (z_wq L v1 q) - z_sum q) ≤ mb)
    (hk : ∀ (r t_supposed_items' t_supposed_room' t_supposed_most' t_supposed_steps' t_trial_most' t_trial_from' t_trial_to' t_trial_steps' t_trial_bestWeight' t_trial_bestProfit' : Int32) (t_trial_bestBits' : Int64) (t_trial_ranked_items' t_trial_ranked_room' t_trial_ranked_breakPlace' t_trial_ranked_breakWeight' t_trial_ranked_breakProfit' t_trial_sets_size' t_trial_spare_size' : Int32) (t_supposed_weights' t_supposed_profits' t_trial_ranked_itemAt' t_trial_ranked_placeOf' t_trial_ranked_weights' t_trial_ranked_profits' t_trial_sets_weights' : Nat → Int32) (n_t_trial_sets_weights' : Nat) (t_trial_sets_profits' : Nat → Int32) (n_t_trial_sets_profits' : Nat) (t_trial_sets_bits' : Nat → Int64) (n_t_trial_sets_bits' : Nat) (t_trial_spare_profits' : Nat → Int32) (n_t_trial_spare_profits' : Nat) (t_trial_spare_weights' : Nat → Int32) (n_t_trial_spare_weights' : Nat) (t_trial_spare_bits' : Nat → Int64) (n_t_trial_spare_bits' : Nat), z_without L v1 r → (z_pw (n_t_trial_sets_weights') ∧ z_pw (n_t_trial_spare_weights')) → ∀ q', q' = (n_t_trial_sets_weights', n_t_trial_spare_weights') → z_sum q ≤ z_sum q' → z_sum q' = z_sum (z_wq L v1 q) → n_t_trial_sets_weights' = (q').1 → n_t_trial_sets_profits' = (q').1 → n_t_trial_sets_bits' = (q').1 → n_t_trial_spare_profits' = (q').2 → n_t_trial_spare_weights' = (q').2 → n_t_trial_spare_bits' = (q').2 →  post r t_supposed_items' t_supposed_room' t_supposed_most' t_supposed_steps' t_trial_most' t_trial_from' t_trial_to' t_trial_steps' t_trial_bestWeight' t_trial_bestProfit' t_trial_bestBits' t_trial_ranked_items' t_trial_ranked_room' t_trial_ranked_breakPlace' t_trial_ranked_breakWeight' t_trial_ranked_breakProfit' t_trial_sets_size' t_trial_spare_size' t_supposed_weights' t_supposed_profits' t_trial_ranked_itemAt' t_trial_ranked_placeOf' t_trial_ranked_weights' t_trial_ranked_profits' t_trial_sets_weights' n_t_trial_sets_weights' t_trial_sets_profits' n_t_trial_sets_profits' t_trial_sets_bits' n_t_trial_sets_bits' t_trial_spare_profits' n_t_trial_spare_profits' t_trial_spare_weights' n_t_trial_spare_weights' t_trial_spare_bits' n_t_trial_spare_bits') :
    wX6_without mb t_now_load_items t_now_load_room t_now_load_most t_now_load_steps t_now_load_weights t_now_load_profits post t_supposed_items t_supposed_room t_supposed_most t_supposed_steps t_trial_most t_trial_from t_trial_to t_trial_steps t_trial_bestWeight t_trial_bestProfit t_trial_bestBits t_trial_ranked_items t_trial_ranked_room t_trial_ranked_breakPlace t_trial_ranked_breakWeight t_trial_ranked_breakProfit t_trial_sets_size t_trial_spare_size t_supposed_weights t_supposed_profits t_trial_ranked_itemAt t_trial_ranked_placeOf t_trial_ranked_weights t_trial_ranked_profits t_trial_sets_weights q.1 t_trial_sets_profits q.1 t_trial_sets_bits q.1 t_trial_spare_profits q.2 t_trial_spare_weights q.2 t_trial_spare_bits q.2 v1 := by
  have hx' := hx
  obtain ⟨rfl, rfl, rfl, rfl, hA⟩ := hx
  obtain ⟨l1, l2, l3, l4, l5, l6, l7⟩ := id hl
  unfold wX6_without
  refine s1_has l1 (fun e ev he => ?_) (fun h => ?_)
  · subst ev
    have hqe : z_wq L (nI e) q = z_wco e L.1 L.2.1 L.2.2.1 L.2.2.2.1 L.2.2.2.2.1 q := by unfold z_wq; rw [if_pos ⟨e, rfl, he⟩, nI_toInt (by omega), Int.toNat_natCast]
    rw [hqe] at hk hmb
    unfold wX6_without_11
    refine ⟨fun z => absurd z (by decide), fun _ => ?_⟩
    refine s1_copyFrom l1 hx' (fun i r m s ws ps hxx => ?_)
    have hx2 := hxx
    obtain ⟨rfl, rfl, rfl, rfl, -⟩ := hxx
    unfold wX6_without_30
    refine s1_takeOut l1 he (fun ws' ps' hcp => ?_)
    have hld := hx2.ldE hl he hcp
    unfold wX6_without_38
    refine ⟨6 * (z_sum (z_wco e L.1 L.2.1 L.2.2.1 L.2.2.2.1 L.2.2.2.2.1 q) - z_sum q), by omega, ?_⟩
    have hok := z_wco_ok (e := e) (n := L.1) (W := L.2.1) (P := L.2.2.1) (R := L.2.2.2.1) l6 l7 h1 h2
    refine s6_optS (e := e) (show L.1 - 1 = z_c e L.1 by unfold z_c; rw [if_pos he]) hld (by omega) l6 l7 h1 h2 (Nat.le_refl _) ?_
    intro r sr a1 a2 a3 a4 a5 a6 a7 a8 a9 a10 a11 a12 a13 a14 a15 a16 a17 a18 a19 n1 a20 n2 a21 n3 a22 n4 a23 n5 a24 n6 er e1 e2 e3 e4 e5 e6
    subst e1 e2 e3 e4 e5 e6
    exact hk _ _ _ _ _ _ _ _ _ _ _ _ _ _ _ _ _ _ _ _ _ _ _ _ _ _ _ _ _ _ _ _ _ _ _ _ _ (Or.inl ⟨e, rfl, he, er⟩) hok.1 _ rfl hok.2 rfl rfl rfl rfl rfl rfl rfl
  · unfold wX6_without_11
    refine ⟨fun _ => hk _ _ _ _ _ _ _ _ _ _ _ _ _ _ _ _ _ _ _ _ _ _ _ _ _ _ _ _ _ _ _ _ _ _ _ _ _ (Or.inr ⟨h, rfl⟩) ⟨h1, h2⟩ q rfl (Nat.le_refl _) ?_ rfl rfl rfl rfl rfl rfl, fun z => absurd rfl z⟩
    unfold z_wq
    rw [if_neg h]
def z_with (L : ZL) (v r : Int32) : Prop := (∃ e, v = nI e ∧ e < L.1 ∧ L.2.1 e ≤ L.2.2.2.1 ∧ r = (if z_ov e L.1 L.2.1 L.2.2.1 (L.2.2.2.1 - L.2.1 e) L.2.2.2.2.1 = -1 then -1 else z_ov e L.1 L.2.1 L.2.2.1 (L.2.2.2.1 - L.2.1 e) L.2.2.2.2.1 + nI (L.2.2.1 e))) ∨ (¬ (∃ e, v = nI e ∧ e < L.1 ∧ L.2.1 e ≤ L.2.2.2.1) ∧ r = -1)
theorem z_with_un {L : ZL} {v a b : Int32} (hl : L.1 ≤ 60) (ha : z_with L v a) (hb : z_with L v b) : a = b := by
  rcases ha with ⟨i, rfl, hi, hw, rfl⟩ | ⟨h, rfl⟩
  · rcases hb with ⟨j, e, hj, _, rfl⟩ | ⟨h, rfl⟩
    · rw [nI_eq (by omega) (by omega)] at e
      rw [e]
    · exact absurd ⟨i, rfl, hi, hw⟩ h
  · rcases hb with ⟨j, e, hj, hw, eb⟩ | ⟨_, rfl⟩
    · exact absurd ⟨j, e, hj, hw⟩ h
    · rfl
noncomputable def z_wiq (L : ZL) (v : Int32) (q : Nat × Nat) : Nat × Nat := @ite _ (∃ e, v = nI e ∧ e < L.1 ∧ L.2.1 e ≤ L.2.2.2.1) (Classical.propDecidable _) (z_wco v.toInt.toNat L.1 L.2.1 L.2.2.1 (L.2.2.2.1 - L.2.1 v.toInt.toNat) L.2.2.2.2.1 q) q
theorem s6_with {L : ZL} {q : Nat × Nat} {mb : Nat} {t_now_load_items t_now_load_room t_now_load_most t_now_load_steps : Int32} {t_now_load_weights t_now_load_profits : Nat → Int32} {post : Int32 → Int32 → Int32 → Int32 → Int32 → Int32 → Int32 → Int32 → Int32 → Int32 → Int32 → Int64 → Int32 → Int32 → Int32 → Int32 → Int32 → Int32 → Int32 → (Nat → Int32) → (Nat → Int32) → (Nat → Int32) → (Nat → Int32) → (Nat → Int32) → (Nat → Int32) → (Nat → Int32) → Nat → (Nat → Int32) → Nat → (Nat → Int64) → Nat → (Nat → Int32) → Nat → (Nat → Int32) → Nat → (Nat → Int64) → Nat → Prop} {t_supposed_items t_supposed_room t_supposed_most t_supposed_steps t_trial_most t_trial_from t_trial_to t_trial_steps t_trial_bestWeight t_trial_bestProfit : Int32} {t_trial_bestBits : Int64} {t_trial_ranked_items t_trial_ranked_room t_trial_ranked_breakPlace t_trial_ranked_breakWeight t_trial_ranked_breakProfit t_trial_sets_size t_trial_spare_size : Int32} {t_supposed_weights t_supposed_profits t_trial_ranked_itemAt t_trial_ranked_placeOf t_trial_ranked_weights t_trial_ranked_profits t_trial_sets_weights t_trial_sets_profits : Nat → Int32} {t_trial_sets_bits : Nat → Int64} {t_trial_spare_profits t_trial_spare_weights : Nat → Int32} {t_trial_spare_bits : Nat → Int64} {v1 : Int32} (hl : l_lim L) (hx : x_L L t_now_load_items t_now_load_room t_now_load_most t_now_load_steps t_now_load_weights t_now_load_profits) (h1 : z_pw q.1) (h2 : z_pw q.2) (hmb : 6 * (z_sum (z_wiq L v1 q) - z_sum q) ≤ mb)
    (hk : ∀ (r t_supposed_items' t_supposed_room' t_supposed_most' t_supposed_steps' t_trial_most' t_trial_from' t_trial_to' t_trial_steps' t_trial_bestWeight' t_trial_bestProfit' : Int32) (t_trial_bestBits' : Int64) (t_trial_ranked_items' t_trial_ranked_room' t_trial_ranked_breakPlace' t_trial_ranked_breakWeight' t_trial_ranked_breakProfit' t_trial_sets_size' t_trial_spare_size' : Int32) (t_supposed_weights' t_supposed_profits' t_trial_ranked_itemAt' t_trial_ranked_placeOf' t_trial_ranked_weights' t_trial_ranked_profits' t_trial_sets_weights' : Nat → Int32) (n_t_trial_sets_weights' : Nat) (t_trial_sets_profits' : Nat → Int32) (n_t_trial_sets_profits' : Nat) (t_trial_sets_bits' : Nat → Int64) (n_t_trial_sets_bits' : Nat) (t_trial_spare_profits' : Nat → Int32) (n_t_trial_spare_profits' : Nat) (t_trial_spare_weights' : Nat → Int32) (n_t_trial_spare_weights' : Nat) (t_trial_spare_bits' : Nat → Int64) (n_t_trial_spare_bits' : Nat), z_with L v1 r → (z_pw (n_t_trial_sets_weights') ∧ z_pw (n_t_trial_spare_weights')) → ∀ q', q' = (n_t_trial_sets_weights', n_t_trial_spare_weights') → z_sum q ≤ z_sum q' → z_sum q' = z_sum (z_wiq L v1 q) → n_t_trial_sets_weights' = (q').1 → n_t_trial_sets_profits' = (q').1 → n_t_trial_sets_bits' = (q').1 → n_t_trial_spare_profits' = (q').2 → n_t_trial_spare_weights' = (q').2 → n_t_trial_spare_bits' = (q').2 →  post r t_supposed_items' t_supposed_room' t_supposed_most' t_supposed_steps' t_trial_most' t_trial_from' t_trial_to' t_trial_steps' t_trial_bestWeight' t_trial_bestProfit' t_trial_bestBits' t_trial_ranked_items' t_trial_ranked_room' t_trial_ranked_breakPlace' t_trial_ranked_breakWeight' t_trial_ranked_breakProfit' t_trial_sets_size' t_trial_spare_size' t_supposed_weights' t_supposed_profits' t_trial_ranked_itemAt' t_trial_ranked_placeOf' t_trial_ranked_weights' t_trial_ranked_profits' t_trial_sets_weights' n_t_trial_sets_weights' t_trial_sets_profits' n_t_trial_sets_profits' t_trial_sets_bits' n_t_trial_sets_bits' t_trial_spare_profits' n_t_trial_spare_profits' t_trial_spare_weights' n_t_trial_spare_weights' t_trial_spare_bits' n_t_trial_spare_bits') :
    wX6_with mb t_now_load_items t_now_load_room t_now_load_most t_now_load_steps t_now_load_weights t_now_load_profits post t_supposed_items t_supposed_room t_supposed_most t_supposed_steps t_trial_most t_trial_from t_trial_to t_trial_steps t_trial_bestWeight t_trial_bestProfit t_trial_bestBits t_trial_ranked_items t_trial_ranked_room t_trial_ranked_breakPlace t_trial_ranked_breakWeight t_trial_ranked_breakProfit t_trial_sets_size t_trial_spare_size t_supposed_weights t_supposed_profits t_trial_ranked_itemAt t_trial_ranked_placeOf t_trial_ranked_weights t_trial_ranked_profits t_trial_sets_weights q.1 t_trial_sets_profits q.1 t_trial_sets_bits q.1 t_trial_spare_profits q.2 t_trial_spare_weights q.2 t_trial_spare_bits q.2 v1 := by
  have hx' := hx
  obtain ⟨rfl, rfl, rfl, rfl, hA⟩ := hx
  obtain ⟨l1, l2, l3, l4, l5, l6, l7⟩ := id hl
  unfold wX6_with
  refine s1_has l1 (fun e ev he => ?_) (fun h => ?_)
  · subst ev
    have lw : L.2.1 e < 2 ^ 31 := Nat.lt_of_le_of_lt (z_sm_1 he) l3
    unfold wX6_with_11
    refine ⟨fun z => absurd z (by decide), fun _ => ?_⟩
    rw [nI_clamp (by omega), (hA e he).1, nI_leI lw (by omega)]
    refine ⟨vp_in_nI (by omega) (by omega), fun hle => ?_, fun hgt => ?_⟩
    · have hqe : z_wiq L (nI e) q = z_wco e L.1 L.2.1 L.2.2.1 (L.2.2.2.1 - L.2.1 e) L.2.2.2.2.1 q := by unfold z_wiq; rw [if_pos ⟨e, rfl, he, hle⟩, nI_toInt (by omega), Int.toNat_natCast]
      rw [hqe] at hk hmb
      refine s1_copyFrom l1 hx' (fun i r m s ws ps hxx => ?_)
      have hx2 := hxx
      obtain ⟨rfl, rfl, rfl, rfl, -⟩ := hxx
      unfold wX6_with_55
      refine s1_takeOut l1 he (fun ws' ps' hcp => ?_)
      have hld := hx2.ldE hl he hcp
      unfold wX6_with_63
      rw [nI_clamp (by omega), (hA e he).1, nI_sub hle]
      refine ⟨vp_in_nI (by omega) (by omega), 6 * (z_sum (z_wco e L.1 L.2.1 L.2.2.1 (L.2.2.2.1 - L.2.1 e) L.2.2.2.2.1 q) - z_sum q), by omega, ?_⟩
      have hok := z_wco_ok (e := e) (n := L.1) (W := L.2.1) (P := L.2.2.1) (R := L.2.2.2.1 - L.2.1 e) l6 l7 h1 h2
      refine s6_optS (e := e) (show L.1 - 1 = z_c e L.1 by unfold z_c; rw [if_pos he]) hld (by omega) l6 l7 h1 h2 (Nat.le_refl _) ?_
      intro r sr a1 a2 a3 a4 a5 a6 a7 a8 a9 a10 a11 a12 a13 a14 a15 a16 a17 a18 a19 n1 a20 n2 a21 n3 a22 n4 a23 n5 a24 n6 er e1 e2 e3 e4 e5 e6
      subst e1 e2 e3 e4 e5 e6
      unfold wX6_with_90
      rw [nI_clamp (by omega), (hA e he).2]
      refine ⟨fun z => ?_, fun z => ⟨vp_in_nI (by omega) (by omega), ?_⟩⟩
      · refine hk _ _ _ _ _ _ _ _ _ _ _ _ _ _ _ _ _ _ _ _ _ _ _ _ _ _ _ _ _ _ _ _ _ _ _ _ _ (Or.inl ⟨e, rfl, he, hle, ?_⟩) hok.1 _ rfl hok.2 rfl rfl rfl rfl rfl rfl rfl
        rw [if_pos (by rw [← er]; exact z)]
      · refine hk _ _ _ _ _ _ _ _ _ _ _ _ _ _ _ _ _ _ _ _ _ _ _ _ _ _ _ _ _ _ _ _ _ _ _ _ _ (Or.inl ⟨e, rfl, he, hle, ?_⟩) hok.1 _ rfl hok.2 rfl rfl rfl rfl rfl rfl rfl
        rw [if_neg (by rw [← er]; exact z), er]
    · have hno : ¬ ∃ j, nI e = nI j ∧ j < L.1 ∧ L.2.1 j ≤ L.2.2.2.1 := fun ⟨j, ej, hj, hw⟩ => by
        rw [nI_eq (by omega) (by omega)] at ej
        subst ej
        exact hgt hw
      refine hk _ _ _ _ _ _ _ _ _ _ _ _ _ _ _ _ _ _ _ _ _ _ _ _ _ _ _ _ _ _ _ _ _ _ _ _ _ (Or.inr ⟨hno, rfl⟩) ⟨h1, h2⟩ q rfl (Nat.le_refl _) ?_ rfl rfl rfl rfl rfl rfl
      unfold z_wiq
      rw [if_neg hno]
  · unfold wX6_with_11
    refine ⟨fun _ => hk _ _ _ _ _ _ _ _ _ _ _ _ _ _ _ _ _ _ _ _ _ _ _ _ _ _ _ _ _ _ _ _ _ _ _ _ _ (Or.inr ⟨fun ⟨j, ej, hj, _⟩ => h ⟨j, ej, hj⟩, rfl⟩) ⟨h1, h2⟩ q rfl (Nat.le_refl _) ?_ rfl rfl rfl rfl rfl rfl, fun z => absurd rfl z⟩
    unfold z_wiq
    rw [if_neg (fun ⟨e, a, b, _⟩ => h ⟨e, a, b⟩)]
theorem s6_ahead {L : ZL} {d : ZC} {q : Nat × Nat} {mb : Nat} {t_now_load_items t_now_load_room t_now_load_most : Int32} {t_now_load_profits t_now_load_weights : Nat → Int32} {post : Int32 → Int32 → Int32 → Int32 → Int32 → Int32 → Int32 → Int64 → Int32 → Int32 → Int32 → Int32 → Int32 → Int32 → Int32 → (Nat → Int32) → (Nat → Int32) → (Nat → Int32) → (Nat → Int32) → (Nat → Int32) → Nat → (Nat → Int32) → Nat → (Nat → Int64) → Nat → (Nat → Int32) → Nat → (Nat → Int32) → Nat → (Nat → Int64) → Nat → Prop} {t_trial_most t_trial_from t_trial_to t_trial_steps t_trial_bestWeight t_trial_bestProfit : Int32} {t_trial_bestBits : Int64} {t_trial_ranked_items t_trial_ranked_room t_trial_ranked_breakPlace t_trial_ranked_breakWeight t_trial_ranked_breakProfit t_trial_sets_size t_trial_spare_size : Int32} {t_trial_ranked_itemAt t_trial_ranked_placeOf t_trial_ranked_weights t_trial_ranked_profits t_trial_sets_weights t_trial_sets_profits : Nat → Int32} {t_trial_sets_bits : Nat → Int64} {t_trial_spare_profits t_trial_spare_weights : Nat → Int32} {t_trial_spare_bits : Nat → Int64} {v1 : Int32} {t_now_load_steps : Int32} (hl : l_lim L) (hx : x_L L t_now_load_items t_now_load_room t_now_load_most t_now_load_steps t_now_load_weights t_now_load_profits) (ha : l_at L d) (h1 : z_pw q.1) (h2 : z_pw q.2) (hmb : 6 * (z_sum (l_wce L d (l_wcr L q)) - z_sum q) ≤ mb)
    (hk : ∀ (r t_trial_most' t_trial_from' t_trial_to' t_trial_steps' t_trial_bestWeight' t_trial_bestProfit' : Int32) (t_trial_bestBits' : Int64) (t_trial_ranked_items' t_trial_ranked_room' t_trial_ranked_breakPlace' t_trial_ranked_breakWeight' t_trial_ranked_breakProfit' t_trial_sets_size' t_trial_spare_size' : Int32) (t_trial_ranked_itemAt' t_trial_ranked_placeOf' t_trial_ranked_weights' t_trial_ranked_profits' t_trial_sets_weights' : Nat → Int32) (n_t_trial_sets_weights' : Nat) (t_trial_sets_profits' : Nat → Int32) (n_t_trial_sets_profits' : Nat) (t_trial_sets_bits' : Nat → Int64) (n_t_trial_sets_bits' : Nat) (t_trial_spare_profits' : Nat → Int32) (n_t_trial_spare_profits' : Nat) (t_trial_spare_weights' : Nat → Int32) (n_t_trial_spare_weights' : Nat) (t_trial_spare_bits' : Nat → Int64) (n_t_trial_spare_bits' : Nat), (v1 = 0 → r = nI ((l_end L d).2.2.1 - L.2.2.2.2.2)) → (¬ v1 = 0 → r = nI (z_gm (l_n L) (l_w L) (l_p L) L.2.2.2.1 L.2.2.2.2.1 60 d d.2.2.2.1.length)) → n_t_trial_sets_weights' = (l_wce L d (l_wcr L q)).1 → n_t_trial_sets_profits' = (l_wce L d (l_wcr L q)).1 → n_t_trial_sets_bits' = (l_wce L d (l_wcr L q)).1 → n_t_trial_spare_profits' = (l_wce L d (l_wcr L q)).2 → n_t_trial_spare_weights' = (l_wce L d (l_wcr L q)).2 → n_t_trial_spare_bits' = (l_wce L d (l_wcr L q)).2 →  post r t_trial_most' t_trial_from' t_trial_to' t_trial_steps' t_trial_bestWeight' t_trial_bestProfit' t_trial_bestBits' t_trial_ranked_items' t_trial_ranked_room' t_trial_ranked_breakPlace' t_trial_ranked_breakWeight' t_trial_ranked_breakProfit' t_trial_sets_size' t_trial_spare_size' t_trial_ranked_itemAt' t_trial_ranked_placeOf' t_trial_ranked_weights' t_trial_ranked_profits' t_trial_sets_weights' n_t_trial_sets_weights' t_trial_sets_profits' n_t_trial_sets_profits' t_trial_sets_bits' n_t_trial_sets_bits' t_trial_spare_profits' n_t_trial_spare_profits' t_trial_spare_weights' n_t_trial_spare_weights' t_trial_spare_bits' n_t_trial_spare_bits') :
    wX6_ahead mb t_now_load_items t_now_load_room t_now_load_most (nI d.2.2.1) t_now_load_profits t_now_load_weights post t_trial_most t_trial_from t_trial_to t_trial_steps t_trial_bestWeight t_trial_bestProfit t_trial_bestBits t_trial_ranked_items t_trial_ranked_room t_trial_ranked_breakPlace t_trial_ranked_breakWeight t_trial_ranked_breakProfit t_trial_sets_size t_trial_spare_size t_trial_ranked_itemAt t_trial_ranked_placeOf t_trial_ranked_weights t_trial_ranked_profits t_trial_sets_weights q.1 t_trial_sets_profits q.1 t_trial_sets_bits q.1 t_trial_spare_profits q.2 t_trial_spare_weights q.2 t_trial_spare_bits q.2 v1 := by
  obtain ⟨hok, hK⟩ := ha.ok hl
  have hld := hx.ld hl
  have hbd := z_lim_bd hl 60
  have hcl : l_n L = z_c 60 L.1 := rfl
  have hckl : l_bk L = z_bk (z_w 60 L.2.1 L.2.2.1 L.1) L.2.2.2.1 (z_c 60 L.1) 0 := rfl
  obtain ⟨rfl, rfl, rfl, rfl, hA⟩ := hx
  obtain ⟨l1, l2, l3, l4, l5, l6, l7⟩ := id hl
  obtain ⟨hq1, hs1⟩ := l_wcr_ok hl ha h1 h2
  obtain ⟨hq2, hs2⟩ := z_wce_ok (k := 60) l7 hok hq1
  have hs2' : z_sum (l_wcr L q) ≤ z_sum (l_wce L d (l_wcr L q)) := hs2
  unfold wX6_ahead
  rw [← z_c60 l1]
  refine s0_begin hld (by omega) h1 (fun itemAt placeOf tw tp sw sp sb harr hs => ?_)
  unfold wX6_ahead_14
  refine ⟨6 * (z_sum (l_wcr L q) - z_sum q), by omega, ?_⟩
  refine s0_widenTo hld.bd harr.2.2 (z_begin_ok (by omega)) l7 (by omega) (z_begin_q h1 h2) (show (c_beg L).2.2.1 + L.2.2.2.2.2 = d.2.2.1 by rw [hK]; exact Nat.zero_add _) ha hs (Nat.le_refl _) (fun sz sw sp sb sp2 sw2 sb2 hs2 => ?_)
  unfold wX6_ahead_28
  refine ⟨6 * (z_sum (l_wce L d (l_wcr L q)) - z_sum (l_wcr L q)), by omega, ?_⟩
  refine s0_widenToTheEnd hld.bd harr.2.2 hok l7 (by omega) hq1 hs2 (Nat.le_refl _) (fun d2 sz sw sp sb sp2 sw2 sb2 he hs3 => ?_)
  have he' : d2 = l_end L d := he
  subst he'
  have hoke : l_okc L (l_end L d) := z_end_ok hok
  have hlime := hoke.1
  have hlimd := hok.1
  obtain ⟨i, -, hi, hie⟩ := z_end_run (k := 60) ha
  have hie' : (l_end L d).2.2.1 + L.2.2.2.2.2 = d.2.2.1 + i := hie
  unfold wX6_ahead_35
  refine ⟨fun z => hk _ _ _ _ _ _ _ _ _ _ _ _ _ _ _ _ _ _ _ _ _ _ _ _ _ _ _ _ _ _ _ (fun _ => ?_) (fun y => absurd z y) rfl rfl rfl rfl rfl rfl, fun z => hk _ _ _ _ _ _ _ _ _ _ _ _ _ _ _ _ _ _ _ _ _ _ _ _ _ _ _ _ _ _ _ (fun y => absurd y z) (fun _ => rfl) rfl rfl rfl rfl rfl rfl⟩
  rw [nI_sub (by omega), hK]
