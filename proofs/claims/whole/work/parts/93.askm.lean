/-! what is asked, by the reference -/
theorem s7_count {L : ZL} {d : ZC} {t_undos : Int32} {t_all : Nat → Int32} {post : Int32 → Int32 → Int32 → Int64 → Int32 → Int64 → Int64 → Int32 → Int32 → Int32 → Int32 → Int64 → Int64 → Int64 → Int32 → (Nat → Int32) → (Nat → Int32) → (Nat → Int64) → (Nat → Int64) → (Nat → Int64) → (Nat → Int64) → (Nat → Int64) → (Nat → Int64) → (Nat → Int64) → (Nat → Int64) → Prop} {t_raised t_many : Int32} {t_room : Int64} {t_breakAt : Int32} {t_breakWeight t_breakProfit : Int64} {t_from t_to t_made t_sets : Int32} {t_bestBits t_bestWeight t_bestProfit : Int64} {t_nexts : Int32} {t_orderOf t_placeOf : Nat → Int32} {t_w t_p t_setBits t_setWeight t_setProfit t_nextProfit t_nextWeight t_nextBits : Nat → Int64} {v1 : Int32} (hl : l_lim L) (hL : y_L L t_all) (ha : l_at L d) (hk : ∀ (r t_raised' t_many' : Int32) (t_room' : Int64) (t_breakAt' : Int32) (t_breakWeight' t_breakProfit' : Int64) (t_from' t_to' t_made' t_sets' : Int32) (t_bestBits' t_bestWeight' t_bestProfit' : Int64) (t_nexts' : Int32) (t_orderOf' t_placeOf' : Nat → Int32) (t_w' t_p' t_setBits' t_setWeight' t_setProfit' t_nextProfit' t_nextWeight' t_nextBits' : Nat → Int64), r = z_count L d t_undos (t_all 124) v1 → t_raised' = 0 → post r t_raised' t_many' t_room' t_breakAt' t_breakWeight' t_breakProfit' t_from' t_to' t_made' t_sets' t_bestBits' t_bestWeight' t_bestProfit' t_nexts' t_orderOf' t_placeOf' t_w' t_p' t_setBits' t_setWeight' t_setProfit' t_nextProfit' t_nextWeight' t_nextBits') : wX7_count t_undos t_all post t_raised t_many t_room t_breakAt t_breakWeight t_breakProfit t_from t_to t_made t_sets t_bestBits t_bestWeight t_bestProfit t_nexts t_orderOf t_placeOf t_w t_p t_setBits t_setWeight t_setProfit t_nextProfit t_nextWeight t_nextBits v1 := by
  have hlo := hL.ld hl
  obtain ⟨hok, hK⟩ := ha.ok hl
  have hbd := z_lim_bd hl 60
  have hcn := z_c60 hl.1
  have hlim := hok.1
  obtain ⟨l1, l2, l3, l4, l5, l6, l7⟩ := id hl
  obtain ⟨a0, a1, a2, a3, a4⟩ := id hL
  have hbp := (z_in_lt hbd (Nat.le_refl _) hok.2.2.2.2.1).2.1
  unfold wX7_count
  refine s7_lays hlo ha (fun nx orderOf placeOf tw tp sb sw sp np nw nb harr hy => ?_)
  unfold z_count at hk
  unfold wX7_count_9
  refine ⟨fun h0 => ?_, fun h0 => ?_⟩
  · skip
    subst h0
    refine ⟨vp_in_nI (n := 0) (by omega) (by omega), hk _ _ _ _ _ _ _ _ _ _ _ _ _ _ _ _ _ _ _ _ _ _ _ _ _  ?_ rfl⟩
    rw [if_pos rfl]
    exact a0
  refine ⟨fun h1 => ?_, fun h1 => ?_⟩
  · skip
    subst h1
    refine ⟨vp_in_nI (n := 1) (by omega) (by omega), hk _ _ _ _ _ _ _ _ _ _ _ _ _ _ _ _ _ _ _ _ _ _ _ _ _  ?_ rfl⟩
    rw [if_neg h0, if_pos rfl]
    exact a1
  refine ⟨fun h2 => ?_, fun h2 => ?_⟩
  · skip
    subst h2
    refine ⟨vp_in_nI (n := 2) (by omega) (by omega), hk _ _ _ _ _ _ _ _ _ _ _ _ _ _ _ _ _ _ _ _ _ _ _ _ _  ?_ rfl⟩
    rw [if_neg h0, if_neg h1, if_pos rfl]
    exact a2
  refine ⟨fun h3 => ?_, fun h3 => ?_⟩
  · skip
    refine hk _ _ _ _ _ _ _ _ _ _ _ _ _ _ _ _ _ _ _ _ _ _ _ _ _  ?_ rfl
    rw [if_neg h0, if_neg h1, if_neg h2, if_pos h3]
  refine ⟨fun h4 => ?_, fun h4 => ?_⟩
  · skip
    refine hk _ _ _ _ _ _ _ _ _ _ _ _ _ _ _ _ _ _ _ _ _ _ _ _ _  ?_ rfl
    rw [if_neg h0, if_neg h1, if_neg h2, if_neg h3, if_pos h4]
    exact lN_i _
  refine ⟨fun h5 => ?_, fun h5 => ?_⟩
  · skip
    refine hk _ _ _ _ _ _ _ _ _ _ _ _ _ _ _ _ _ _ _ _ _ _ _ _ _  ?_ rfl
    rw [if_neg h0, if_neg h1, if_neg h2, if_neg h3, if_neg h4, if_pos h5]
    exact lN_i _
  refine ⟨fun h6 => ?_, fun h6 => ?_⟩
  · skip
    refine s7_linearBound hbd harr.2.2 (by omega) ?_
    refine hk _ _ _ _ _ _ _ _ _ _ _ _ _ _ _ _ _ _ _ _ _ _ _ _ _  ?_ rfl
    rw [if_neg h0, if_neg h1, if_neg h2, if_neg h3, if_neg h4, if_neg h5, if_pos h6]
    exact lN_i _
  refine ⟨fun h7 => ?_, fun h7 => ?_⟩
  · skip
    refine hk _ _ _ _ _ _ _ _ _ _ _ _ _ _ _ _ _ _ _ _ _ _ _ _ _  ?_ rfl
    rw [if_neg h0, if_neg h1, if_neg h2, if_neg h3, if_neg h4, if_neg h5, if_neg h6, if_pos h7]
  refine ⟨fun h8 => ?_, fun h8 => ?_⟩
  · skip
    refine hk _ _ _ _ _ _ _ _ _ _ _ _ _ _ _ _ _ _ _ _ _ _ _ _ _  ?_ rfl
    rw [if_neg h0, if_neg h1, if_neg h2, if_neg h3, if_neg h4, if_neg h5, if_neg h6, if_neg h7, if_pos h8]
  refine ⟨fun h9 => ?_, fun h9 => ?_⟩
  · skip
    refine hk _ _ _ _ _ _ _ _ _ _ _ _ _ _ _ _ _ _ _ _ _ _ _ _ _  ?_ rfl
    rw [if_neg h0, if_neg h1, if_neg h2, if_neg h3, if_neg h4, if_neg h5, if_neg h6, if_neg h7, if_neg h8, if_pos h9]
  refine ⟨fun h10 => ?_, fun h10 => ?_⟩
  · skip
    refine hk _ _ _ _ _ _ _ _ _ _ _ _ _ _ _ _ _ _ _ _ _ _ _ _ _  ?_ rfl
    rw [if_neg h0, if_neg h1, if_neg h2, if_neg h3, if_neg h4, if_neg h5, if_neg h6, if_neg h7, if_neg h8, if_neg h9, if_pos h10]
  refine ⟨fun h11 => ?_, fun h11 => ?_⟩
  · skip
    rw [show (0 : Int32) = nI 0 from rfl, nI_leI (by omega) (by omega)]
    refine ⟨fun q => ?_, fun q => ?_⟩
    · refine hk _ _ _ _ _ _ _ _ _ _ _ _ _ _ _ _ _ _ _ _ _ _ _ _ _  ?_ rfl
      rw [if_neg h0, if_neg h1, if_neg h2, if_neg h3, if_neg h4, if_neg h5, if_neg h6, if_neg h7, if_neg h8, if_neg h9, if_neg h10, if_pos h11, decide_eq_false (show ¬ 0 < L.1 by omega), Bool.and_false]
      rfl
    · refine s7_isProved (by omega) (by omega) (by omega) (Nat.le_trans hok.2.2.2.1 l7) (fun g => ?_) (fun g => ?_)
      · have hp : z_proved (l_n L) d = true := by unfold z_proved; rw [decide_eq_true_iff]; exact g
        unfold wX7_count_165
        refine ⟨fun z => absurd z (by decide), fun _ => hk _ _ _ _ _ _ _ _ _ _ _ _ _ _ _ _ _ _ _ _ _ _ _ _ _  ?_ rfl⟩
        rw [if_neg h0, if_neg h1, if_neg h2, if_neg h3, if_neg h4, if_neg h5, if_neg h6, if_neg h7, if_neg h8, if_neg h9, if_neg h10, if_pos h11, hp, decide_eq_true (show 0 < L.1 by omega)]
        rfl
      · have hp : z_proved (l_n L) d = false := by unfold z_proved; rw [decide_eq_false_iff_not]; exact g
        unfold wX7_count_165
        refine ⟨fun _ => hk _ _ _ _ _ _ _ _ _ _ _ _ _ _ _ _ _ _ _ _ _ _ _ _ _  ?_ rfl, fun z => absurd rfl z⟩
        rw [if_neg h0, if_neg h1, if_neg h2, if_neg h3, if_neg h4, if_neg h5, if_neg h6, if_neg h7, if_neg h8, if_neg h9, if_neg h10, if_pos h11, hp, Bool.false_and]
        rfl
  refine ⟨fun h12 => ?_, fun h12 => ?_⟩
  · skip
    refine hk _ _ _ _ _ _ _ _ _ _ _ _ _ _ _ _ _ _ _ _ _ _ _ _ _  ?_ rfl
    rw [if_neg h0, if_neg h1, if_neg h2, if_neg h3, if_neg h4, if_neg h5, if_neg h6, if_neg h7, if_neg h8, if_neg h9, if_neg h10, if_neg h11, if_pos h12]
    exact lN_i _
  refine ⟨fun h13 => ?_, fun h13 => ?_⟩
  · skip
    refine hk _ _ _ _ _ _ _ _ _ _ _ _ _ _ _ _ _ _ _ _ _ _ _ _ _  ?_ rfl
    rw [if_neg h0, if_neg h1, if_neg h2, if_neg h3, if_neg h4, if_neg h5, if_neg h6, if_neg h7, if_neg h8, if_neg h9, if_neg h10, if_neg h11, if_neg h12, if_pos h13]
    exact lN_i _
  refine ⟨fun h14 => ?_, fun h14 => ?_⟩
  · skip
    refine s7_fixedMany hbd harr.2.2 (by omega) hbp ?_
    refine hk _ _ _ _ _ _ _ _ _ _ _ _ _ _ _ _ _ _ _ _ _ _ _ _ _  ?_ rfl
    rw [if_neg h0, if_neg h1, if_neg h2, if_neg h3, if_neg h4, if_neg h5, if_neg h6, if_neg h7, if_neg h8, if_neg h9, if_neg h10, if_neg h11, if_neg h12, if_neg h13, if_pos h14]
  refine ⟨fun h15 => ?_, fun h15 => ?_⟩
  · skip
    refine hk _ _ _ _ _ _ _ _ _ _ _ _ _ _ _ _ _ _ _ _ _ _ _ _ _  ?_ rfl
    rw [if_neg h0, if_neg h1, if_neg h2, if_neg h3, if_neg h4, if_neg h5, if_neg h6, if_neg h7, if_neg h8, if_neg h9, if_neg h10, if_neg h11, if_neg h12, if_neg h13, if_neg h14, if_pos h15]
  refine ⟨fun h16 => ?_, fun h16 => ?_⟩
  · skip
    refine hk _ _ _ _ _ _ _ _ _ _ _ _ _ _ _ _ _ _ _ _ _ _ _ _ _  ?_ rfl
    rw [if_neg h0, if_neg h1, if_neg h2, if_neg h3, if_neg h4, if_neg h5, if_neg h6, if_neg h7, if_neg h8, if_neg h9, if_neg h10, if_neg h11, if_neg h12, if_neg h13, if_neg h14, if_neg h15, if_pos h16]
    first | rfl | skip
  refine ⟨fun h17 => ?_, fun h17 => ?_⟩
  · skip
    refine s7_fitMany hy hok.2.1 (fun s hs => (z_in_lt hbd hlim.2.1 (hok.2.2.1 s hs)).1) (Nat.le_trans hok.2.2.2.1 l7) (by omega) ?_
    refine hk _ _ _ _ _ _ _ _ _ _ _ _ _ _ _ _ _ _ _ _ _ _ _ _ _  ?_ rfl
    rw [if_neg h0, if_neg h1, if_neg h2, if_neg h3, if_neg h4, if_neg h5, if_neg h6, if_neg h7, if_neg h8, if_neg h9, if_neg h10, if_neg h11, if_neg h12, if_neg h13, if_neg h14, if_neg h15, if_neg h16, if_pos h17]
  refine ⟨fun h18 => ?_, fun h18 => ?_⟩
  · skip
    refine s7_sumOf (off := 4) l1 (by omega) a0 (fun k hk => (a4 k hk).1) l3 ?_
    refine hk _ _ _ _ _ _ _ _ _ _ _ _ _ _ _ _ _ _ _ _ _ _ _ _ _  ?_ rfl
    rw [if_neg h0, if_neg h1, if_neg h2, if_neg h3, if_neg h4, if_neg h5, if_neg h6, if_neg h7, if_neg h8, if_neg h9, if_neg h10, if_neg h11, if_neg h12, if_neg h13, if_neg h14, if_neg h15, if_neg h16, if_neg h17, if_pos h18]
    exact lN_i _
  refine ⟨fun h19 => ?_, fun h19 => ?_⟩
  · skip
    refine s7_sumOf (off := 64) l1 (by omega) a0 (fun k hk => (a4 k hk).2) l4 ?_
    refine hk _ _ _ _ _ _ _ _ _ _ _ _ _ _ _ _ _ _ _ _ _ _ _ _ _  ?_ rfl
    rw [if_neg h0, if_neg h1, if_neg h2, if_neg h3, if_neg h4, if_neg h5, if_neg h6, if_neg h7, if_neg h8, if_neg h9, if_neg h10, if_neg h11, if_neg h12, if_neg h13, if_neg h14, if_neg h15, if_neg h16, if_neg h17, if_neg h18, if_pos h19]
    exact lN_i _
  refine hk _ _ _ _ _ _ _ _ _ _ _ _ _ _ _ _ _ _ _ _ _ _ _ _ _  ?_ rfl
  rw [if_neg h0, if_neg h1, if_neg h2, if_neg h3, if_neg h4, if_neg h5, if_neg h6, if_neg h7, if_neg h8, if_neg h9, if_neg h10, if_neg h11, if_neg h12, if_neg h13, if_neg h14, if_neg h15, if_neg h16, if_neg h17, if_neg h18, if_neg h19]
