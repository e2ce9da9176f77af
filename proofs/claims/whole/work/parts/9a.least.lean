/-! the least room for a profit -/
/-- the search: what it answers, and how long the rows are behind it -/
def z_ls (n : Nat) (W P : Nat → Nat) (M t : Nat) : Nat → Nat → Nat → Nat × Nat → Int32 × (Nat × Nat)
  | 0, _, hi, q => (nI hi, q)
  | k + 1, lo, hi, q => if lo < hi then (if z_proved (z_c 60 n) (z_opt 60 n W P (lo + (hi - lo) / 2) M) = true then
      (if (z_opt 60 n W P (lo + (hi - lo) / 2) M).2.2.2.2.2.1 < t then z_ls n W P M t k (lo + (hi - lo) / 2 + 1) hi (z_wco 60 n W P (lo + (hi - lo) / 2) M q) else z_ls n W P M t k lo (lo + (hi - lo) / 2) (z_wco 60 n W P (lo + (hi - lo) / 2) M q))
      else (-1, z_wco 60 n W P (lo + (hi - lo) / 2) M q)) else (nI hi, q)
theorem z_ls_ok {n : Nat} {W P : Nat → Nat} {M t : Nat} (hM2 : 2 ≤ M) (hM : M ≤ 1000) : ∀ {k lo hi : Nat} {q : Nat × Nat}, z_pw q.1 → z_pw q.2 → (z_pw (z_ls n W P M t k lo hi q).2.1 ∧ z_pw (z_ls n W P M t k lo hi q).2.2) ∧ z_sum q ≤ z_sum (z_ls n W P M t k lo hi q).2
  | 0, lo, hi, q, h1, h2 => ⟨⟨h1, h2⟩, Nat.le_refl _⟩
  | k + 1, lo, hi, q, h1, h2 => by
    obtain ⟨⟨a1, a2⟩, a3⟩ := z_wco_ok (e := 60) (n := n) (W := W) (P := P) (R := lo + (hi - lo) / 2) hM2 hM h1 h2
    unfold z_ls
    split
    · split
      · split
        · obtain ⟨b1, b2⟩ := z_ls_ok (n := n) (W := W) (P := P) (M := M) (t := t) hM2 hM (k := k) (lo := lo + (hi - lo) / 2 + 1) (hi := hi) a1 a2
          exact ⟨b1, Nat.le_trans a3 b2⟩
        · obtain ⟨b1, b2⟩ := z_ls_ok (n := n) (W := W) (P := P) (M := M) (t := t) hM2 hM (k := k) (lo := lo) (hi := lo + (hi - lo) / 2) a1 a2
          exact ⟨b1, Nat.le_trans a3 b2⟩
      · exact ⟨⟨a1, a2⟩, a3⟩
    · exact ⟨⟨h1, h2⟩, Nat.le_refl _⟩
/-- what it answers does not hang on the rows -/
theorem z_ls_1 {n : Nat} {W P : Nat → Nat} {M t : Nat} : ∀ {k lo hi : Nat} {q q' : Nat × Nat}, (z_ls n W P M t k lo hi q).1 = (z_ls n W P M t k lo hi q').1
  | 0, lo, hi, q, q' => rfl
  | k + 1, lo, hi, q, q' => by
    unfold z_ls
    split
    · split
      · split
        · exact z_ls_1
        · exact z_ls_1
      · rfl
    · rfl
abbrev l_hi (L : ZL) : Nat := if 2000000000 < z_sm L.2.1 L.1 then 2000000000 else z_sm L.2.1 L.1
/-- the whole: none for too much -/
def z_lst (L : ZL) (t : Nat) (q : Nat × Nat) : Int32 × (Nat × Nat) :=
  if z_proved (z_c 60 L.1) (z_opt 60 L.1 L.2.1 L.2.2.1 (l_hi L) L.2.2.2.2.1) = true ∧ t ≤ (z_opt 60 L.1 L.2.1 L.2.2.1 (l_hi L) L.2.2.2.2.1).2.2.2.2.2.1 then z_ls L.1 L.2.1 L.2.2.1 L.2.2.2.2.1 t 32 0 (l_hi L) (z_wco 60 L.1 L.2.1 L.2.2.1 (l_hi L) L.2.2.2.2.1 q) else (-1, z_wco 60 L.1 L.2.1 L.2.2.1 (l_hi L) L.2.2.2.2.1 q)
def z_least (L : ZL) (v : Int32) (q : Nat × Nat) : Int32 × (Nat × Nat) := if v < 0 then (-1, q) else z_lst L v.toInt.toNat q
theorem z_least_1 {L : ZL} {v : Int32} {q q' : Nat × Nat} : (z_least L v q).1 = (z_least L v q').1 := by
  unfold z_least z_lst
  split
  · rfl
  · split
    · exact z_ls_1
    · rfl
theorem z_least_ok {L : ZL} {v : Int32} {q : Nat × Nat} (hl : l_lim L) (h1 : z_pw q.1) (h2 : z_pw q.2) : (z_pw (z_least L v q).2.1 ∧ z_pw (z_least L v q).2.2) ∧ z_sum q ≤ z_sum (z_least L v q).2 := by
  obtain ⟨⟨a1, a2⟩, a3⟩ := z_wco_ok (e := 60) (n := L.1) (W := L.2.1) (P := L.2.2.1) (R := l_hi L) hl.2.2.2.2.2.1 hl.2.2.2.2.2.2 h1 h2
  unfold z_least z_lst
  split
  · exact ⟨⟨h1, h2⟩, Nat.le_refl _⟩
  · split
    · obtain ⟨b1, b2⟩ := z_ls_ok (n := L.1) (W := L.2.1) (P := L.2.2.1) (t := v.toInt.toNat) hl.2.2.2.2.2.1 hl.2.2.2.2.2.2 (k := 32) (lo := 0) (hi := l_hi L) a1 a2
      exact ⟨b1, Nat.le_trans a3 b2⟩
    · exact ⟨⟨a1, a2⟩, a3⟩
theorem l_hi_lt (L : ZL) : l_hi L ≤ 2000000000 := by unfold l_hi; split <;> omega
set_option maxHeartbeats 4000000 in
theorem s6_least {L : ZL} {q : Nat × Nat} {mb : Nat} {t_now_load_items t_now_load_room t_now_load_most t_now_load_steps : Int32} {t_now_load_weights t_now_load_profits : Nat → Int32} {post : Int32 → Int32 → Int32 → Int32 → Int32 → Int32 → Int32 → Int32 → Int32 → Int32 → Int32 → Int64 → Int32 → Int32 → Int32 → Int32 → Int32 → Int32 → Int32 → (Nat → Int32) → (Nat → Int32) → (Nat → Int32) → (Nat → Int32) → (Nat → Int32) → (Nat → Int32) → (Nat → Int32) → Nat → (Nat → Int32) → Nat → (Nat → Int64) → Nat → (Nat → Int32) → Nat → (Nat → Int32) → Nat → (Nat → Int64) → Nat → Prop} {t_supposed_items t_supposed_room t_supposed_most t_supposed_steps t_trial_most t_trial_from t_trial_to t_trial_steps t_trial_bestWeight t_trial_bestProfit : Int32} {t_trial_bestBits : Int64} {t_trial_ranked_items t_trial_ranked_room t_trial_ranked_breakPlace t_trial_ranked_breakWeight t_trial_ranked_breakProfit t_trial_sets_size t_trial_spare_size : Int32} {t_supposed_weights t_supposed_profits t_trial_ranked_itemAt t_trial_ranked_placeOf t_trial_ranked_weights t_trial_ranked_profits t_trial_sets_weights t_trial_sets_profits : Nat → Int32} {t_trial_sets_bits : Nat → Int64} {t_trial_spare_profits t_trial_spare_weights : Nat → Int32} {t_trial_spare_bits : Nat → Int64} {v1 : Int32} (hl : l_lim L) (hx : x_L L t_now_load_items t_now_load_room t_now_load_most t_now_load_steps t_now_load_weights t_now_load_profits) (h1 : z_pw q.1) (h2 : z_pw q.2) (hmb : 6 * (z_sum (z_least L v1 q).2 - z_sum q) ≤ mb)
    (hk : ∀ (r t_supposed_items' t_supposed_room' t_supposed_most' t_supposed_steps' t_trial_most' t_trial_from' t_trial_to' t_trial_steps' t_trial_bestWeight' t_trial_bestProfit' : Int32) (t_trial_bestBits' : Int64) (t_trial_ranked_items' t_trial_ranked_room' t_trial_ranked_breakPlace' t_trial_ranked_breakWeight' t_trial_ranked_breakProfit' t_trial_sets_size' t_trial_spare_size' : Int32) (t_supposed_weights' t_supposed_profits' t_trial_ranked_itemAt' t_trial_ranked_placeOf' t_trial_ranked_weights' t_trial_ranked_profits' t_trial_sets_weights' : Nat → Int32) (n_t_trial_sets_weights' : Nat) (t_trial_sets_profits' : Nat → Int32) (n_t_trial_sets_profits' : Nat) (t_trial_sets_bits' : Nat → Int64) (n_t_trial_sets_bits' : Nat) (t_trial_spare_profits' : Nat → Int32) (n_t_trial_spare_profits' : Nat) (t_trial_spare_weights' : Nat → Int32) (n_t_trial_spare_weights' : Nat) (t_trial_spare_bits' : Nat → Int64) (n_t_trial_spare_bits' : Nat), r = (z_least L v1 q).1 → n_t_trial_sets_weights' = ((z_least L v1 q).2).1 → n_t_trial_sets_profits' = ((z_least L v1 q).2).1 → n_t_trial_sets_bits' = ((z_least L v1 q).2).1 → n_t_trial_spare_profits' = ((z_least L v1 q).2).2 → n_t_trial_spare_weights' = ((z_least L v1 q).2).2 → n_t_trial_spare_bits' = ((z_least L v1 q).2).2 →  post r t_supposed_items' t_supposed_room' t_supposed_most' t_supposed_steps' t_trial_most' t_trial_from' t_trial_to' t_trial_steps' t_trial_bestWeight' t_trial_bestProfit' t_trial_bestBits' t_trial_ranked_items' t_trial_ranked_room' t_trial_ranked_breakPlace' t_trial_ranked_breakWeight' t_trial_ranked_breakProfit' t_trial_sets_size' t_trial_spare_size' t_supposed_weights' t_supposed_profits' t_trial_ranked_itemAt' t_trial_ranked_placeOf' t_trial_ranked_weights' t_trial_ranked_profits' t_trial_sets_weights' n_t_trial_sets_weights' t_trial_sets_profits' n_t_trial_sets_profits' t_trial_sets_bits' n_t_trial_sets_bits' t_trial_spare_profits' n_t_trial_spare_profits' t_trial_spare_weights' n_t_trial_spare_weights' t_trial_spare_bits' n_t_trial_spare_bits') : wX6_least mb t_now_load_items t_now_load_room t_now_load_most t_now_load_steps t_now_load_weights t_now_load_profits post t_supposed_items t_supposed_room t_supposed_most t_supposed_steps t_trial_most t_trial_from t_trial_to t_trial_steps t_trial_bestWeight t_trial_bestProfit t_trial_bestBits t_trial_ranked_items t_trial_ranked_room t_trial_ranked_breakPlace t_trial_ranked_breakWeight t_trial_ranked_breakProfit t_trial_sets_size t_trial_spare_size t_supposed_weights t_supposed_profits t_trial_ranked_itemAt t_trial_ranked_placeOf t_trial_ranked_weights t_trial_ranked_profits t_trial_sets_weights q.1 t_trial_sets_profits q.1 t_trial_sets_bits q.1 t_trial_spare_profits q.2 t_trial_spare_weights q.2 t_trial_spare_bits q.2 v1 := by
  have hx' := hx
  obtain ⟨rfl, rfl, rfl, rfl, hA⟩ := hx
  obtain ⟨l1, l2, l3, l4, l5, l6, l7⟩ := id hl
  have hhi := l_hi_lt L
  unfold wX6_least
  refine ⟨fun h0 => ?_, fun h0 => ?_⟩
  · obtain ⟨t, rfl, ht⟩ : ∃ t, v1 = nI t ∧ t < 2 ^ 31 := by
      rw [Int32.le_iff_toInt_le] at h0
      have h0' : 0 ≤ v1.toInt := h0
      have h9 := Int32.toInt_lt v1
      refine ⟨v1.toInt.toNat, ?_, by omega⟩
      rw [← Int32.toInt_inj, nI_toInt (by omega)]
      omega
    have hz : z_least L (nI t) q = z_lst L t q := by
      unfold z_least
      rw [if_neg (show ¬ nI t < 0 from nI_nlt (b := 0) (Nat.zero_le _) ht), nI_toInt ht, Int.toNat_natCast]
    rw [hz] at hk hmb
    refine s1_copyFrom l1 hx' (fun i r m s ws ps hxx => ?_)
    have hld := hxx.ld hl
    obtain ⟨rfl, rfl, rfl, rfl, -⟩ := hxx
    unfold wX6_least_20 wX1_allWeights
    refine s1_sumOf l1 (fun k hk => (hA k hk).1) l3 ?_
    have ehi : (if (2000000000 : Int64) < lN (z_sm L.2.1 L.1) then (2000000000 : Int64) else lN (z_sm L.2.1 L.1)).toInt32 = nI (l_hi L) := by
      unfold l_hi
      by_cases g : 2000000000 < z_sm L.2.1 L.1
      · rw [if_pos g, if_pos (by rw [show (2000000000 : Int64) = lN 2000000000 from rfl, pk_lLT (by omega) (by omega)]; exact g)]
        rfl
      · rw [if_neg g, if_neg (by rw [show (2000000000 : Int64) = lN 2000000000 from rfl, pk_lLT (by omega) (by omega)]; exact g), lN_i]
    dsimp only
    unfold wX6_least_32
    rw [ehi]
    have hok := z_wco_ok (e := 60) (n := L.1) (W := L.2.1) (P := L.2.2.1) (R := l_hi L) l6 l7 h1 h2
    have hfin : z_sum (z_wco 60 L.1 L.2.1 L.2.2.1 (l_hi L) L.2.2.2.2.1 q) ≤ z_sum (z_lst L t q).2 := by
      unfold z_lst
      split
      · exact (z_ls_ok l6 l7 hok.1.1 hok.1.2).2
      · exact Nat.le_refl _
    refine ⟨6 * (z_sum (z_wco 60 L.1 L.2.1 L.2.2.1 (l_hi L) L.2.2.2.2.1 q) - z_sum q), by omega, s6_optS (e := 60) (R := l_hi L) (q := q) (z_c60 l1).symm hld (by omega) l6 l7 h1 h2 (Nat.le_refl _) ?_⟩
    intro r sr a1 a2 a3 a4 a5 a6 a7 a8 a9 a10 a11 a12 a13 a14 a15 a16 a17 a18 a19 n1 a20 n2 a21 n3 a22 n4 a23 n5 a24 n6 er e1 e2 e3 e4 e5 e6
    subst e1 e2 e3 e4 e5 e6
    have hov := z_opt_lt (e := 60) (n := L.1) (W := L.2.1) (P := L.2.2.1) (R := l_hi L) (M := L.2.2.2.2.1) ⟨l1, l2, l3, l4, hhi, l6, l7⟩
    unfold wX6_least_45
    by_cases hp : z_proved (z_c 60 L.1) (z_opt 60 L.1 L.2.1 L.2.2.1 (l_hi L) L.2.2.2.2.1) = true
    · rw [z_ov_1 hp] at er
      subst er
      refine ⟨fun z => absurd z (z_n1 hov), fun _ => ?_⟩
      rw [nI_leI (by omega) (by omega)]
      refine ⟨fun hle => ⟨33, ?_⟩, fun hgt => ?_⟩
      · have e9 : z_lst L t q = z_ls L.1 L.2.1 L.2.2.1 L.2.2.2.2.1 t 32 0 (l_hi L) (z_wco 60 L.1 L.2.1 L.2.2.1 (l_hi L) L.2.2.2.2.1 q) := by unfold z_lst; rw [if_pos ⟨hp, hle⟩]
        rw [e9] at hk hmb hfin
        generalize hF : z_ls L.1 L.2.1 L.2.2.1 L.2.2.2.2.1 t 32 0 (l_hi L) (z_wco 60 L.1 L.2.1 L.2.2.1 (l_hi L) L.2.2.2.2.1 q) = F at hk hmb hfin
        have main : ∀ (k lo hi : Nat) (q2 : Nat × Nat) (g0 : Nat) (sr : Int32) (t_trial_most t_trial_from t_trial_to t_trial_steps t_trial_bestWeight t_trial_bestProfit : Int32) (t_trial_bestBits : Int64) (t_trial_ranked_items t_trial_ranked_room t_trial_ranked_breakPlace t_trial_ranked_breakWeight t_trial_ranked_breakProfit t_trial_sets_size t_trial_spare_size : Int32) (t_trial_ranked_itemAt t_trial_ranked_placeOf t_trial_ranked_weights t_trial_ranked_profits t_trial_sets_weights t_trial_sets_profits : Nat → Int32) (t_trial_sets_bits : Nat → Int64) (t_trial_spare_profits t_trial_spare_weights : Nat → Int32) (t_trial_spare_bits : Nat → Int64), k ≤ 32 → lo ≤ hi → hi ≤ 2000000000 → z_pw q2.1 → z_pw q2.2 → g0 + 6 * z_sum q = 6 * z_sum q2 → z_ls L.1 L.2.1 L.2.2.1 L.2.2.2.2.1 t k lo hi q2 = F →
            wX6_least_64 mb (nI L.1) (nI L.2.2.2.1) (nI L.2.2.2.2.1) (nI L.2.2.2.2.2) t_now_load_weights t_now_load_profits post (k + 1) g0 (nI L.1) sr (nI L.2.2.2.2.1) (nI L.2.2.2.2.2) t_trial_most t_trial_from t_trial_to t_trial_steps t_trial_bestWeight t_trial_bestProfit t_trial_bestBits t_trial_ranked_items t_trial_ranked_room t_trial_ranked_breakPlace t_trial_ranked_breakWeight t_trial_ranked_breakProfit t_trial_sets_size t_trial_spare_size ws ps t_trial_ranked_itemAt t_trial_ranked_placeOf t_trial_ranked_weights t_trial_ranked_profits t_trial_sets_weights q2.1 t_trial_sets_profits q2.1 t_trial_sets_bits q2.1 t_trial_spare_profits q2.2 t_trial_spare_weights q2.2 t_trial_spare_bits q2.2 (nI t) (nI lo) (nI hi) (nI (32 - k)) := by
          intro k
          induction k with
          | zero =>
            intro lo hi q2 g0 sr t_trial_most t_trial_from t_trial_to t_trial_steps t_trial_bestWeight t_trial_bestProfit t_trial_bestBits t_trial_ranked_items t_trial_ranked_room t_trial_ranked_breakPlace t_trial_ranked_breakWeight t_trial_ranked_breakProfit t_trial_sets_size t_trial_spare_size t_trial_ranked_itemAt t_trial_ranked_placeOf t_trial_ranked_weights t_trial_ranked_profits t_trial_sets_weights t_trial_sets_profits t_trial_sets_bits t_trial_spare_profits t_trial_spare_weights t_trial_spare_bits hk32 hlo hhi2 hp1 hp2 hg hz2
            rw [z_ls] at hz2
            subst hz2
            rw [wX6_least_64]
            unfold wX6_least_64_b
            refine ⟨fun _ => ?_, fun z => absurd (Int32.le_refl _) z⟩
            exact hk _ _ _ _ _ _ _ _ _ _ _ _ _ _ _ _ _ _ _ _ _ _ _ _ _ _ _ _ _ _ _ _ _ _ _ _ _ rfl rfl rfl rfl rfl rfl rfl
          | succ k ih =>
            intro lo hi q2 g0 sr t_trial_most t_trial_from t_trial_to t_trial_steps t_trial_bestWeight t_trial_bestProfit t_trial_bestBits t_trial_ranked_items t_trial_ranked_room t_trial_ranked_breakPlace t_trial_ranked_breakWeight t_trial_ranked_breakProfit t_trial_sets_size t_trial_spare_size t_trial_ranked_itemAt t_trial_ranked_placeOf t_trial_ranked_weights t_trial_ranked_profits t_trial_sets_weights t_trial_sets_profits t_trial_sets_bits t_trial_spare_profits t_trial_spare_weights t_trial_spare_bits hk32 hlo hhi2 hp1 hp2 hg hz2
            have hmono := (z_ls_ok (n := L.1) (W := L.2.1) (P := L.2.2.1) (M := L.2.2.2.2.1) (t := t) l6 l7 (k := k + 1) (lo := lo) (hi := hi) hp1 hp2).2
            rw [hz2] at hmono
            rw [z_ls] at hz2
            rw [wX6_least_64]
            unfold wX6_least_64_b
            rw [show (32 : Int32) = nI 32 from rfl, nI_leI (by omega) (by omega), nI_leI (by omega) (by omega)]
            refine ⟨fun z => by omega, fun _ => ⟨fun hge => ?_, fun hlt => ?_⟩⟩
            · rw [if_neg (by omega)] at hz2
              subst hz2
              exact hk _ _ _ _ _ _ _ _ _ _ _ _ _ _ _ _ _ _ _ _ _ _ _ _ _ _ _ _ _ _ _ _ _ _ _ _ _ rfl rfl rfl rfl rfl rfl rfl
            · rw [if_pos (by omega)] at hz2
              have emid : nI lo + (nI hi - nI lo) / 2 = nI (lo + (hi - lo) / 2) := by
                rw [nI_sub hlo, show (2 : Int32) = nI 2 from rfl, nI_div (by omega) (by omega) (by omega), nI_add]
              rw [emid]
              have hok2 := z_wco_ok (e := 60) (n := L.1) (W := L.2.1) (P := L.2.2.1) (R := lo + (hi - lo) / 2) l6 l7 hp1 hp2
              have hov2 := z_opt_lt (e := 60) (n := L.1) (W := L.2.1) (P := L.2.2.1) (R := lo + (hi - lo) / 2) (M := L.2.2.2.2.1) ⟨l1, l2, l3, l4, by omega, l6, l7⟩
              have hcost : z_sum (z_wco 60 L.1 L.2.1 L.2.2.1 (lo + (hi - lo) / 2) L.2.2.2.2.1 q2) ≤ z_sum F.2 := by
                rw [← hz2]
                split
                · split
                  · exact (z_ls_ok l6 l7 hok2.1.1 hok2.1.2).2
                  · exact (z_ls_ok l6 l7 hok2.1.1 hok2.1.2).2
                · exact Nat.le_refl _
              refine ⟨6 * (z_sum (z_wco 60 L.1 L.2.1 L.2.2.1 (lo + (hi - lo) / 2) L.2.2.2.2.1 q2) - z_sum q2), by omega, s6_optS (e := 60) (R := lo + (hi - lo) / 2) (q := q2) (z_c60 l1).symm hld (by omega) l6 l7 hp1 hp2 (Nat.le_refl _) ?_⟩
              intro r sr a1 a2 a3 a4 a5 a6 a7 a8 a9 a10 a11 a12 a13 a14 a15 a16 a17 a18 a19 n1 a20 n2 a21 n3 a22 n4 a23 n5 a24 n6 er e1 e2 e3 e4 e5 e6
              subst e1 e2 e3 e4 e5 e6
              unfold wX6_least_91
              by_cases hpr : z_proved (z_c 60 L.1) (z_opt 60 L.1 L.2.1 L.2.2.1 (lo + (hi - lo) / 2) L.2.2.2.2.1) = true
              · rw [if_pos hpr] at hz2
                rw [z_ov_1 hpr] at er
                subst er
                refine ⟨fun z => absurd z (z_n1 hov2), fun _ => ?_⟩
                rw [nI_ltI (by omega) (by omega)]
                refine ⟨fun g => ?_, fun g => ?_⟩
                · rw [if_pos g] at hz2
                  unfold wX6_least_118
                  rw [nI_1, nI_1, show 32 - (k + 1) + 1 = 32 - k by omega]
                  exact ih _ _ _ _ _ _ _ _ _ _ _ _ _ _ _ _ _ _ _ _ _ _ _ _ _ _ _ _ _ (by omega) (by omega) hhi2 hok2.1.1 hok2.1.2 (by omega) hz2
                · rw [if_neg g] at hz2
                  unfold wX6_least_118
                  rw [nI_1, show 32 - (k + 1) + 1 = 32 - k by omega]
                  exact ih _ _ _ _ _ _ _ _ _ _ _ _ _ _ _ _ _ _ _ _ _ _ _ _ _ _ _ _ _ (by omega) (by omega) (by omega) hok2.1.1 hok2.1.2 (by omega) hz2
              · rw [if_neg hpr] at hz2
                rw [z_ov_0 hpr] at er
                subst er
                subst hz2
                exact ⟨fun _ => hk _ _ _ _ _ _ _ _ _ _ _ _ _ _ _ _ _ _ _ _ _ _ _ _ _ _ _ _ _ _ _ _ _ _ _ _ _ rfl rfl rfl rfl rfl rfl rfl, fun z => absurd rfl z⟩
        exact main 32 0 (l_hi L) _ _ _ _ _ _ _ _ _ _ _ _ _ _ _ _ _ _ _ _ _ _ _ _ _ _ _ (Nat.le_refl _) (Nat.zero_le _) hhi hok.1.1 hok.1.2 (by omega) hF
      · have e9 : z_lst L t q = (-1, z_wco 60 L.1 L.2.1 L.2.2.1 (l_hi L) L.2.2.2.2.1 q) := by unfold z_lst; rw [if_neg (fun z => hgt z.2)]
        rw [e9] at hk
        exact hk _ _ _ _ _ _ _ _ _ _ _ _ _ _ _ _ _ _ _ _ _ _ _ _ _ _ _ _ _ _ _ _ _ _ _ _ _ rfl rfl rfl rfl rfl rfl rfl
    · rw [z_ov_0 hp] at er
      subst er
      have e9 : z_lst L t q = (-1, z_wco 60 L.1 L.2.1 L.2.2.1 (l_hi L) L.2.2.2.2.1 q) := by unfold z_lst; rw [if_neg (fun z => hp z.1)]
      rw [e9] at hk
      exact ⟨fun _ => hk _ _ _ _ _ _ _ _ _ _ _ _ _ _ _ _ _ _ _ _ _ _ _ _ _ _ _ _ _ _ _ _ _ _ _ _ _ rfl rfl rfl rfl rfl rfl rfl, fun z => absurd rfl z⟩
  · have hz : z_least L v1 q = (-1, q) := by
      unfold z_least
      rw [if_pos (Int32.not_le.mp h0)]
    rw [hz] at hk
    exact hk _ _ _ _ _ _ _ _ _ _ _ _ _ _ _ _ _ _ _ _ _ _ _ _ _ _ _ _ _ _ _ _ _ _ _ _ _ rfl rfl rfl rfl rfl rfl rfl
theorem s7_least {L : ZL} {q : Nat × Nat} {t_all : Nat → Int32} {post : Int32 → Int32 → Int32 → Int64 → Int32 → Int64 → Int64 → Int32 → Int32 → Int32 → Int32 → Int64 → Int64 → Int64 → Int32 → (Nat → Int32) → (Nat → Int32) → (Nat → Int64) → (Nat → Int64) → (Nat → Int64) → (Nat → Int64) → (Nat → Int64) → (Nat → Int64) → (Nat → Int64) → (Nat → Int64) → Prop} {t_raised t_many : Int32} {t_room : Int64} {t_breakAt : Int32} {t_breakWeight t_breakProfit : Int64} {t_from t_to t_made t_sets : Int32} {t_bestBits t_bestWeight t_bestProfit : Int64} {t_nexts : Int32} {t_orderOf t_placeOf : Nat → Int32} {t_w t_p t_setBits t_setWeight t_setProfit t_nextProfit t_nextWeight t_nextBits : Nat → Int64} {v1 : Int32} (hl : l_lim L) (hL : y_L L t_all) (hk : ∀ (r t_raised' t_many' : Int32) (t_room' : Int64) (t_breakAt' : Int32) (t_breakWeight' t_breakProfit' : Int64) (t_from' t_to' t_made' t_sets' : Int32) (t_bestBits' t_bestWeight' t_bestProfit' : Int64) (t_nexts' : Int32) (t_orderOf' t_placeOf' : Nat → Int32) (t_w' t_p' t_setBits' t_setWeight' t_setProfit' t_nextProfit' t_nextWeight' t_nextBits' : Nat → Int64), r = (z_least L v1 q).1 → t_raised' = 0 → post r t_raised' t_many' t_room' t_breakAt' t_breakWeight' t_breakProfit' t_from' t_to' t_made' t_sets' t_bestBits' t_bestWeight' t_bestProfit' t_nexts' t_orderOf' t_placeOf' t_w' t_p' t_setBits' t_setWeight' t_setProfit' t_nextProfit' t_nextWeight' t_nextBits') : wX7_least t_all post t_raised t_many t_room t_breakAt t_breakWeight t_breakProfit t_from t_to t_made t_sets t_bestBits t_bestWeight t_bestProfit t_nexts t_orderOf t_placeOf t_w t_p t_setBits t_setWeight t_setProfit t_nextProfit t_nextWeight t_nextBits v1 := by
  obtain ⟨hA, a1, a2, a3, hR, hM2, hM1⟩ := hL.ld hl
  have a0 := hL.1
  have a4 := hL.2.2.2.2
  obtain ⟨l1, l2, l3, l4, l5, l6, l7⟩ := id hl
  have hhi := l_hi_lt L
  have e30 : wX7_least_30 t_all post 0 t_many t_room t_breakAt t_breakWeight t_breakProfit t_from t_to t_made t_sets t_bestBits t_bestWeight t_bestProfit t_nexts t_orderOf t_placeOf t_w t_p t_setBits t_setWeight t_setProfit t_nextProfit t_nextWeight t_nextBits v1 0 (lN (l_hi L)) := by
    unfold wX7_least_30
    refine ⟨fun h0 => ?_, fun h0 => ?_⟩
    · have hz : z_least L v1 q = (-1, q) := by
        unfold z_least
        rw [if_pos h0]
      rw [hz] at hk
      exact hk _ _ _ _ _ _ _ _ _ _ _ _ _ _ _ _ _ _ _ _ _ _ _ _ _ rfl rfl
    · obtain ⟨t, rfl, ht⟩ : ∃ t, v1 = nI t ∧ t < 2 ^ 31 := by
        rw [Int32.lt_iff_toInt_lt] at h0
        have h0' : ¬ v1.toInt < 0 := h0
        have h9 := Int32.toInt_lt v1
        refine ⟨v1.toInt.toNat, ?_, by omega⟩
        rw [← Int32.toInt_inj, nI_toInt (by omega)]
        omega
      have hz : z_least L (nI t) q = z_lst L t q := by
        unfold z_least
        rw [if_neg (show ¬ nI t < 0 from nI_nlt (b := 0) (Nat.zero_le _) ht), nI_toInt ht, Int.toNat_natCast]
      rw [hz] at hk
      have hov := z_opt_lt (e := 60) (n := L.1) (W := L.2.1) (P := L.2.2.1) (R := l_hi L) (M := L.2.2.2.2.1) ⟨l1, l2, l3, l4, hhi, l6, l7⟩
      refine s7_optimum hA a2 hM2 hM1 (by omega) (z_none l1) (fun hp r m1 m2 m3 m4 m5 m6 m7 m8 m9 m10 m11 m12 m13 m14 m15 m16 m17 m18 m19 m20 m21 m22 m23 er => ?_) (fun hp r m1 m2 m3 m4 m5 m6 m7 m8 m9 m10 m11 m12 m13 m14 m15 m16 m17 m18 m19 m20 m21 m22 m23 er => ?_)
      · subst er
        unfold wX7_least_43
        rw [nI_l ht, pk_lLE (by omega) (by omega)]
        refine ⟨fun hle => ⟨33, ?_⟩, fun hgt => ?_⟩
        · have e9 : z_lst L t q = z_ls L.1 L.2.1 L.2.2.1 L.2.2.2.2.1 t 32 0 (l_hi L) (z_wco 60 L.1 L.2.1 L.2.2.1 (l_hi L) L.2.2.2.2.1 q) := by unfold z_lst; rw [if_pos ⟨hp, hle⟩]
          rw [e9] at hk
          have main : ∀ (k lo hi : Nat) (q2 : Nat × Nat) (m1 : Int32) (m2 : Int64) (m3 : Int32) (m4 m5 : Int64) (m6 m7 m8 m9 : Int32) (m10 m11 m12 : Int64) (m13 : Int32) (m14 m15 : Nat → Int32) (m16 m17 m18 m19 m20 m21 m22 m23 : Nat → Int64), lo ≤ hi → hi ≤ 2000000000 → hi - lo < 2 ^ k → (z_ls L.1 L.2.1 L.2.2.1 L.2.2.2.2.1 t k lo hi q2).1 = (z_ls L.1 L.2.1 L.2.2.1 L.2.2.2.2.1 t 32 0 (l_hi L) (z_wco 60 L.1 L.2.1 L.2.2.1 (l_hi L) L.2.2.2.2.1 q)).1 →
              wX7_least_51 t_all post (k + 1) 0 m1 m2 m3 m4 m5 m6 m7 m8 m9 m10 m11 m12 m13 m14 m15 m16 m17 m18 m19 m20 m21 m22 m23 (nI t) (lN lo) (lN hi) := by
            intro k
            induction k with
            | zero =>
              intro lo hi q2 m1 m2 m3 m4 m5 m6 m7 m8 m9 m10 m11 m12 m13 m14 m15 m16 m17 m18 m19 m20 m21 m22 m23 hlo hhi2 hd hz2
              rw [z_ls] at hz2
              rw [wX7_least_51]
              unfold wX7_least_51_b
              rw [pk_lLE (by omega) (by omega), lN_i]
              refine ⟨fun _ => hk _ _ _ _ _ _ _ _ _ _ _ _ _ _ _ _ _ _ _ _ _ _ _ _ _ hz2 rfl, fun z => ?_⟩
              have : hi - lo < 1 := hd
              omega
            | succ k ih =>
              intro lo hi q2 m1 m2 m3 m4 m5 m6 m7 m8 m9 m10 m11 m12 m13 m14 m15 m16 m17 m18 m19 m20 m21 m22 m23 hlo hhi2 hd hz2
              have hd' : hi - lo < 2 * 2 ^ k := by rw [Nat.pow_succ] at hd; omega
              rw [z_ls] at hz2
              rw [wX7_least_51]
              unfold wX7_least_51_b
              rw [pk_lLE (by omega) (by omega), lN_i]
              refine ⟨fun hge => ?_, fun hlt => ?_⟩
              · rw [if_neg (by omega)] at hz2
                exact hk _ _ _ _ _ _ _ _ _ _ _ _ _ _ _ _ _ _ _ _ _ _ _ _ _ hz2 rfl
              · rw [if_pos (by omega)] at hz2
                have emid : (lN lo + lN hi) / 2 = lN (lo + (hi - lo) / 2) := by
                  rw [lN_add, show (2 : Int64) = lN 2 from rfl, pk_lDiv (by omega) (by omega) (by omega)]
                  congr 1
                  omega
                have hov2 := z_opt_lt (e := 60) (n := L.1) (W := L.2.1) (P := L.2.2.1) (R := lo + (hi - lo) / 2) (M := L.2.2.2.2.1) ⟨l1, l2, l3, l4, by omega, l6, l7⟩
                rw [emid]
                refine s7_optimum hA a2 hM2 hM1 (by omega) (z_none l1) (fun hp r m1 m2 m3 m4 m5 m6 m7 m8 m9 m10 m11 m12 m13 m14 m15 m16 m17 m18 m19 m20 m21 m22 m23 er => ?_) (fun hp r m1 m2 m3 m4 m5 m6 m7 m8 m9 m10 m11 m12 m13 m14 m15 m16 m17 m18 m19 m20 m21 m22 m23 er => ?_)
                · subst er
                  rw [if_pos hp] at hz2
                  have hne : ¬ lN (z_opt 60 L.1 L.2.1 L.2.2.1 (lo + (hi - lo) / 2) L.2.2.2.2.1).2.2.2.2.2.1 = -1 := fun z => by
                    have h2 := congrArg Int64.toInt z
                    rw [pk_lT (by omega)] at h2
                    have h3 : ((z_opt 60 L.1 L.2.1 L.2.2.1 (lo + (hi - lo) / 2) L.2.2.2.2.1).2.2.2.2.2.1 : Int) = -1 := h2
                    omega
                  unfold wX7_least_75
                  rw [nI_l ht, pk_lLT (by omega) (by omega)]
                  refine ⟨fun z => absurd z hne, fun _ => ⟨fun g => ?_, fun g => ?_⟩⟩
                  · rw [if_pos g] at hz2
                    unfold wX7_least_108
                    rw [show (1 : Int64) = lN 1 from rfl, lN_add]
                    exact ih _ _ _ _ _ _ _ _ _ _ _ _ _ _ _ _ _ _ _ _ _ _ _ _ _ _ (by omega) hhi2 (by omega) hz2
                  · rw [if_neg g] at hz2
                    unfold wX7_least_108
                    exact ih _ _ _ _ _ _ _ _ _ _ _ _ _ _ _ _ _ _ _ _ _ _ _ _ _ _ (by omega) (by omega) (by omega) hz2
                · subst er
                  rw [if_neg hp] at hz2
                  unfold wX7_least_75
                  exact ⟨fun _ => hk _ _ _ _ _ _ _ _ _ _ _ _ _ _ _ _ _ _ _ _ _ _ _ _ _ hz2 rfl, fun z => absurd rfl z⟩
          exact main 32 0 (l_hi L) _ _ _ _ _ _ _ _ _ _ _ _ _ _ _ _ _ _ _ _ _ _ _ _ (Nat.zero_le _) hhi (by omega) rfl
        · have e9 : z_lst L t q = (-1, z_wco 60 L.1 L.2.1 L.2.2.1 (l_hi L) L.2.2.2.2.1 q) := by unfold z_lst; rw [if_neg (fun z => hgt z.2)]
          rw [e9] at hk
          exact hk _ _ _ _ _ _ _ _ _ _ _ _ _ _ _ _ _ _ _ _ _ _ _ _ _ rfl rfl
      · subst er
        have e9 : z_lst L t q = (-1, z_wco 60 L.1 L.2.1 L.2.2.1 (l_hi L) L.2.2.2.2.1 q) := by unfold z_lst; rw [if_neg (fun z => hp z.1)]
        rw [e9] at hk
        unfold wX7_least_43
        rw [nI_l ht]
        refine ⟨fun z => ?_, fun _ => hk _ _ _ _ _ _ _ _ _ _ _ _ _ _ _ _ _ _ _ _ _ _ _ _ _ rfl rfl⟩
        rw [Int64.le_iff_toInt_le, pk_lT (by omega)] at z
        have z' : (t : Int) ≤ -1 := z
        omega
  unfold wX7_least
  refine s7_sumOf (off := 4) l1 (by omega) a0 (fun k hk => (a4 k hk).1) l3 ?_
  unfold wX7_least_12
  rw [show (2000000000 : Int64) = lN 2000000000 from rfl, pk_lLE (by omega) (by omega)]
  refine ⟨fun g => ?_, fun g => ?_⟩
  · refine s7_sumOf (off := 4) l1 (by omega) a0 (fun k hk => (a4 k hk).1) l3 ?_
    have e : l_hi L = z_sm L.2.1 L.1 := by unfold l_hi; rw [if_neg (by omega)]
    rw [e] at e30
    exact e30
  · have e : l_hi L = 2000000000 := by unfold l_hi; rw [if_pos (by omega)]
    rw [e] at e30
    exact e30
