/-! what is asked, by the class -/
abbrev l_n (L : ZL) : Nat := z_c 60 L.1
abbrev l_w (L : ZL) : Nat → Nat := z_w 60 L.2.1 L.2.2.1 L.1
abbrev l_p (L : ZL) : Nat → Nat := z_p 60 L.2.1 L.2.2.1 L.1
abbrev l_bk (L : ZL) : Nat := z_bk (l_w L) L.2.2.2.1 (l_n L) 0
def z_lb (n : Nat) (w p : Nat → Nat) (R : Nat) : Nat := z_sm p (z_bk w R n 0) + (if z_bk w R n 0 < n then (R - z_sm w (z_bk w R n 0)) * p (z_bk w R n 0) / w (z_bk w R n 0) else 0)
def z_one (b : Bool) : Int32 := if b = true then 1 else 0
def z_count (L : ZL) (d : ZC) (h len v : Int32) : Int32 :=
  if v = 0 then nI L.1 else if v = 1 then nI L.2.2.2.1 else if v = 2 then nI L.2.2.2.2.1 else if v = 3 then nI (l_bk L) else if v = 4 then nI (z_sm (l_w L) (l_bk L)) else if v = 5 then nI (z_sm (l_p L) (l_bk L)) else if v = 6 then nI (z_lb (l_n L) (l_w L) (l_p L) L.2.2.2.1) else if v = 7 then nI d.1 else if v = 8 then y_to d.2.1 else if v = 9 then nI d.2.2.1 else if v = 10 then nI d.2.2.2.1.length else if v = 11 then z_one (z_proved (l_n L) d && decide (0 < L.1)) else if v = 12 then nI d.2.2.2.2.2.1 else if v = 13 then nI d.2.2.2.2.1 else if v = 14 then nI (z_many (z_fix (l_n L) (l_w L) (l_p L) L.2.2.2.1 d.2.2.2.2.2.1) (l_n L)) else if v = 15 then h else if v = 16 then len else if v = 17 then nI (z_cf L.2.2.2.1 d.2.2.2.1) else if v = 18 then nI (z_sm L.2.1 L.1) else if v = 19 then nI (z_sm L.2.2.1 L.1) else -1
theorem s6_linearBound {n : Nat} {w p : Nat → Nat} {R : Nat} {t_core_ranked_weights t_core_ranked_profits : Nat → Int32} {post : Int32 → Prop} (hb : y_bd n w p) (hwp : x_wp n w p t_core_ranked_weights t_core_ranked_profits) (hR : R < 2 ^ 31) (hk : post (nI (z_lb n w p R))) :
    wX6_linearBound (nI n) (nI R) (nI (z_bk w R n 0)) (nI (z_sm w (z_bk w R n 0))) (nI (z_sm p (z_bk w R n 0))) t_core_ranked_weights t_core_ranked_profits post := by
  have hn := hb.1
  obtain ⟨b1, b2, b3, b4⟩ := z_bk_ok (R := R) hb
  unfold z_lb at hk
  unfold wX6_linearBound wX2_breakIsItem
  rw [nI_leI (by omega) (by omega)]
  refine ⟨fun g => ?_, fun g => ?_⟩
  · rw [if_neg (by omega), Nat.add_zero] at hk
    unfold wX6_linearBound_12 wX6_linearBound_31
    refine ⟨fun _ => ?_, fun z => absurd rfl z⟩
    rw [nI_l b4, show lN (z_sm p (z_bk w R n 0)) + 0 = lN (z_sm p (z_bk w R n 0)) from Int64.add_zero _, lN_i]
    exact hk
  · rw [if_pos (by omega)] at hk
    have lb := hb.lt (show z_bk w R n 0 < n by omega)
    have pb := hb.2.1 _ (show z_bk w R n 0 < n by omega)
    unfold wX6_linearBound_12 wX2_roomLeft wX6_linearBound_24
    refine ⟨fun z => absurd z (by decide), fun _ => ?_⟩
    rw [nI_l hR, nI_l b3, lN_sub b2]
    refine s2_worthDown hb hwp (by omega) (by rw [pk_lT (by omega)]; omega) (fun _ r hr => ?_) (fun z => by omega)
    rw [pk_lT (by omega)] at hr
    have hm : (R - z_sm w (z_bk w R n 0)) * p (z_bk w R n 0) < 2 ^ 62 := z_mul_lt (by omega) lb.2
    have hd : (R - z_sm w (z_bk w R n 0)) * p (z_bk w R n 0) / w (z_bk w R n 0) ≤ (R - z_sm w (z_bk w R n 0)) * p (z_bk w R n 0) := Nat.div_le_self _ _
    have hr' : r = lN ((R - z_sm w (z_bk w R n 0)) * p (z_bk w R n 0) / w (z_bk w R n 0)) := l_toN (by omega) (by rw [hr]; norm_cast)
    unfold wX6_linearBound_27 wX6_linearBound_31
    rw [hr', nI_l b4, lN_add, lN_i]
    exact hk
theorem s7_linearBound {n : Nat} {w p : Nat → Nat} {R : Nat} {t_w t_p : Nat → Int64} {post : Int64 → Prop} (hb : y_bd n w p) (hwp : y_wp n w p t_w t_p) (hR : R < 2 ^ 31) (hk : post (lN (z_lb n w p R))) :
    wX7_linearBound (nI n) (lN R) (nI (z_bk w R n 0)) (lN (z_sm w (z_bk w R n 0))) (lN (z_sm p (z_bk w R n 0))) t_p t_w post := by
  have hn := hb.1
  obtain ⟨b1, b2, b3, b4⟩ := z_bk_ok (R := R) hb
  unfold z_lb at hk
  unfold wX7_linearBound wX7_isBreak
  rw [nI_leI (by omega) (by omega)]
  refine ⟨fun g => ?_, fun g => ?_⟩
  · rw [if_neg (by omega), Nat.add_zero] at hk
    unfold wX7_linearBound_8
    refine ⟨fun _ => ?_, fun z => absurd rfl z⟩
    rw [show lN (z_sm p (z_bk w R n 0)) + 0 = lN (z_sm p (z_bk w R n 0)) from Int64.add_zero _]
    exact hk
  · rw [if_pos (by omega)] at hk
    have lb := hb.lt (show z_bk w R n 0 < n by omega)
    have pb := hb.2.1 _ (show z_bk w R n 0 < n by omega)
    obtain ⟨e1, e2⟩ := hwp _ (show z_bk w R n 0 < n by omega)
    have hm : (R - z_sm w (z_bk w R n 0)) * p (z_bk w R n 0) < 2 ^ 62 := z_mul_lt (by omega) lb.2
    unfold wX7_linearBound_8
    rw [nI_clamp (by omega), e1, e2, lN_sub b2, lN_mul, pk_lDiv (by omega) (by omega) (by omega), lN_add]
    refine ⟨fun z => absurd z (by decide), fun _ => ⟨vp_in_nI (by omega) (by omega), vp_in_nI (by omega) (by omega), ?_, hk⟩⟩
    rw [show (0 : Int64) = lN 0 from rfl, pk_lEQ (by omega) (by omega)]
    omega
theorem s6_count {L : ZL} {H : List ZL} {d : ZC} {cap : Nat} {t_acts t_now_length t_now_load_items t_now_load_room t_now_load_most t_core_from t_core_to t_core_steps t_core_bestWeight t_core_bestProfit t_core_sets_size t_core_ranked_items t_core_ranked_room t_core_ranked_breakPlace t_core_ranked_breakWeight t_core_ranked_breakProfit : Int32} {t_now_load_profits t_now_load_weights t_core_sets_weights t_core_ranked_profits t_core_ranked_weights : Nat → Int32} {post : Int32 → Prop} {v1 : Int32} {t_now_load_steps t_core_most : Int32} {t_core_bestBits : Int64} {t_core_ranked_itemAt t_core_ranked_placeOf t_core_sets_profits : Nat → Int32} {t_core_sets_bits : Nat → Int64} (hl : l_lim L) (hx : x_L L t_now_load_items t_now_load_room t_now_load_most t_now_load_steps t_now_load_weights t_now_load_profits) (ha : l_at L d) (hd : l_core L d t_core_most t_core_from t_core_to t_core_steps t_core_bestWeight t_core_bestProfit t_core_bestBits t_core_ranked_items t_core_ranked_room t_core_ranked_breakPlace t_core_ranked_breakWeight t_core_ranked_breakProfit t_core_sets_size t_core_ranked_itemAt t_core_ranked_placeOf t_core_ranked_weights t_core_ranked_profits t_core_sets_weights t_core_sets_profits t_core_sets_bits) (hcap : d.2.2.2.1.length ≤ cap) (hc : cap ≤ 2048) (hk : post (z_count L d t_acts t_now_length v1)) :
    wX6_count t_acts t_now_length t_now_load_items t_now_load_room t_now_load_most t_core_from t_core_to t_core_steps t_core_bestWeight t_core_bestProfit t_core_sets_size t_core_ranked_items t_core_ranked_room t_core_ranked_breakPlace t_core_ranked_breakWeight t_core_ranked_breakProfit t_now_load_profits t_now_load_weights t_core_sets_weights cap t_core_ranked_profits t_core_ranked_weights post v1 := by
  obtain ⟨hok, hK⟩ := ha.ok hl
  have hbd := z_lim_bd hl 60
  have hcn := z_c60 hl.1
  have hlim := hok.1
  obtain ⟨l1, l2, l3, l4, l5, l6, l7⟩ := id hl
  obtain ⟨rfl, rfl, rfl, rfl, hA⟩ := hx
  obtain ⟨rfl, rfl, rfl, rfl, rfl, rfl, rfl, rfl, rfl, rfl, rfl, rfl, rfl, harr, hset⟩ := hd
  have hbp := (z_in_lt hbd (Nat.le_refl _) hok.2.2.2.2.1).2.1
  unfold z_count at hk
  unfold wX6_count
  refine ⟨fun h0 => ?_, fun h0 => ?_⟩
  · rw [if_pos h0] at hk
    exact hk
  rw [if_neg h0] at hk
  refine ⟨fun h1 => ?_, fun h1 => ?_⟩
  · rw [if_pos h1] at hk
    exact hk
  rw [if_neg h1] at hk
  refine ⟨fun h2 => ?_, fun h2 => ?_⟩
  · rw [if_pos h2] at hk
    exact hk
  rw [if_neg h2] at hk
  refine ⟨fun h3 => ?_, fun h3 => ?_⟩
  · rw [if_pos h3] at hk
    exact hk
  rw [if_neg h3] at hk
  refine ⟨fun h4 => ?_, fun h4 => ?_⟩
  · rw [if_pos h4] at hk
    exact hk
  rw [if_neg h4] at hk
  refine ⟨fun h5 => ?_, fun h5 => ?_⟩
  · rw [if_pos h5] at hk
    exact hk
  rw [if_neg h5] at hk
  refine ⟨fun h6 => ?_, fun h6 => ?_⟩
  · rw [if_pos h6] at hk
    exact s6_linearBound hbd harr.2.2 (by omega) hk
  rw [if_neg h6] at hk
  refine ⟨fun h7 => ?_, fun h7 => ?_⟩
  · rw [if_pos h7] at hk
    exact hk
  rw [if_neg h7] at hk
  refine ⟨fun h8 => ?_, fun h8 => ?_⟩
  · rw [if_pos h8] at hk
    exact hk
  rw [if_neg h8] at hk
  refine ⟨fun h9 => ?_, fun h9 => ?_⟩
  · rw [if_pos h9] at hk
    exact hk
  rw [if_neg h9] at hk
  refine ⟨fun h10 => ?_, fun h10 => ?_⟩
  · rw [if_pos h10] at hk
    exact hk
  rw [if_neg h10] at hk
  refine ⟨fun h11 => ?_, fun h11 => ?_⟩
  · rw [if_pos h11] at hk
    refine s0_isProved (by omega) (by omega) (by omega) (Nat.le_trans hok.2.2.2.1 l7) (fun g => ?_) (fun g => ?_)
    · have hp : z_proved (l_n L) d = true := by unfold z_proved; rw [decide_eq_true_iff]; exact g
      unfold wX6_count_209
      refine ⟨fun z => absurd z (by decide), fun _ => ?_⟩
      rw [show (0 : Int32) = nI 0 from rfl, nI_leI (by omega) (by omega)]
      rw [hp, Bool.true_and] at hk
      refine ⟨fun q => ?_, fun q => ?_⟩
      · rw [decide_eq_false (by omega)] at hk; exact hk
      · rw [decide_eq_true (by omega)] at hk; exact hk
    · have hp : z_proved (l_n L) d = false := by unfold z_proved; rw [decide_eq_false_iff_not]; exact g
      unfold wX6_count_209
      rw [hp, Bool.false_and] at hk
      exact ⟨fun _ => hk, fun z => absurd rfl z⟩
  rw [if_neg h11] at hk
  refine ⟨fun h12 => ?_, fun h12 => ?_⟩
  · rw [if_pos h12] at hk
    exact hk
  rw [if_neg h12] at hk
  refine ⟨fun h13 => ?_, fun h13 => ?_⟩
  · rw [if_pos h13] at hk
    exact hk
  rw [if_neg h13] at hk
  refine ⟨fun h14 => ?_, fun h14 => ?_⟩
  · rw [if_pos h14] at hk
    have := s6_countFixed (post := post) hbd harr.2.2 (show L.2.2.2.1 < 2 ^ 31 by omega) hbp hk
    rw [show nI (z_c 60 L.1) = nI L.1 by rw [hcn]] at this ⊢
    exact this
  rw [if_neg h14] at hk
  refine ⟨fun h15 => ?_, fun h15 => ?_⟩
  · rw [if_pos h15] at hk
    exact hk
  rw [if_neg h15] at hk
  refine ⟨fun h16 => ?_, fun h16 => ?_⟩
  · rw [if_pos h16] at hk
    exact hk
  rw [if_neg h16] at hk
  refine ⟨fun h17 => ?_, fun h17 => ?_⟩
  · rw [if_pos h17] at hk
    exact s0_countFitting (fun i hi => (hset i hi).1) (fun s hs => (z_in_lt hbd hlim.2.1 (hok.2.2.1 s hs)).1) hcap hc (by omega) hk
  rw [if_neg h17] at hk
  refine ⟨fun h18 => ?_, fun h18 => ?_⟩
  · rw [if_pos h18] at hk
    unfold wX1_allWeights
    refine s1_sumOf l1 (fun k hk => (hA k hk).1) l3 ?_
    dsimp only
    rw [lN_i]
    exact hk
  rw [if_neg h18] at hk
  refine ⟨fun h19 => ?_, fun h19 => ?_⟩
  · rw [if_pos h19] at hk
    unfold wX1_allProfits
    refine s1_sumOf l1 (fun k hk => (hA k hk).2) l4 ?_
    dsimp only
    rw [lN_i]
    exact hk
  rw [if_neg h19] at hk
  exact hk
