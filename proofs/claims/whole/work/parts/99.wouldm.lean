/-! what would be, by the reference -/
theorem z_ov_1 {e n : Nat} {W P : Nat → Nat} {R M : Nat} (h : z_proved (z_c e n) (z_opt e n W P R M) = true) : z_ov e n W P R M = nI (z_opt e n W P R M).2.2.2.2.2.1 := by unfold z_ov; rw [if_pos h]
theorem z_ov_0 {e n : Nat} {W P : Nat → Nat} {R M : Nat} (h : ¬ z_proved (z_c e n) (z_opt e n W P R M) = true) : z_ov e n W P R M = -1 := by unfold z_ov; rw [if_neg h]
theorem s7_other {L : ZL} {t_all : Nat → Int32} {post : Int32 → Int32 → Int32 → Int64 → Int32 → Int64 → Int64 → Int32 → Int32 → Int32 → Int32 → Int64 → Int64 → Int64 → Int32 → (Nat → Int32) → (Nat → Int32) → (Nat → Int64) → (Nat → Int64) → (Nat → Int64) → (Nat → Int64) → (Nat → Int64) → (Nat → Int64) → (Nat → Int64) → (Nat → Int64) → Prop} {t_raised t_many : Int32} {t_room : Int64} {t_breakAt : Int32} {t_breakWeight t_breakProfit : Int64} {t_from t_to t_made t_sets : Int32} {t_bestBits t_bestWeight t_bestProfit : Int64} {t_nexts : Int32} {t_orderOf t_placeOf : Nat → Int32} {t_w t_p t_setBits t_setWeight t_setProfit t_nextProfit t_nextWeight t_nextBits : Nat → Int64} {v1 : Int32} (hl : l_lim L) (hL : y_L L t_all) (hk : ∀ (r t_raised' t_many' : Int32) (t_room' : Int64) (t_breakAt' : Int32) (t_breakWeight' t_breakProfit' : Int64) (t_from' t_to' t_made' t_sets' : Int32) (t_bestBits' t_bestWeight' t_bestProfit' : Int64) (t_nexts' : Int32) (t_orderOf' t_placeOf' : Nat → Int32) (t_w' t_p' t_setBits' t_setWeight' t_setProfit' t_nextProfit' t_nextWeight' t_nextBits' : Nat → Int64), z_other L v1 r → t_raised' = 0 → post r t_raised' t_many' t_room' t_breakAt' t_breakWeight' t_breakProfit' t_from' t_to' t_made' t_sets' t_bestBits' t_bestWeight' t_bestProfit' t_nexts' t_orderOf' t_placeOf' t_w' t_p' t_setBits' t_setWeight' t_setProfit' t_nextProfit' t_nextWeight' t_nextBits') : wX7_other t_all post t_raised t_many t_room t_breakAt t_breakWeight t_breakProfit t_from t_to t_made t_sets t_bestBits t_bestWeight t_bestProfit t_nexts t_orderOf t_placeOf t_w t_p t_setBits t_setWeight t_setProfit t_nextProfit t_nextWeight t_nextBits v1 := by
  obtain ⟨hA, a1, a2, a3, hR, hM2, hM1⟩ := hL.ld hl
  have l1 := hl.1
  unfold wX7_other
  refine s7_inI (a := 0) (b := 2000000000) (by omega) (by omega) (fun R e _ hR => ?_) (fun h => ?_)
  · subst e
    unfold wX7_other_14
    refine ⟨fun z => absurd z (by decide), fun _ => ?_⟩
    rw [nI_l (by omega)]
    refine s7_optimum hA a2 hM2 hM1 (by omega) (z_none l1) (fun hp r m1 m2 m3 m4 m5 m6 m7 m8 m9 m10 m11 m12 m13 m14 m15 m16 m17 m18 m19 m20 m21 m22 m23 er => ?_) (fun hp r m1 m2 m3 m4 m5 m6 m7 m8 m9 m10 m11 m12 m13 m14 m15 m16 m17 m18 m19 m20 m21 m22 m23 er => ?_)
    · unfold wX7_other_24
      exact hk _ _ _ _ _ _ _ _ _ _ _ _ _ _ _ _ _ _ _ _ _ _ _ _ _ (Or.inl ⟨R, rfl, hR, by rw [er, lN_i, z_ov_1 hp]⟩) rfl
    · unfold wX7_other_24
      exact hk _ _ _ _ _ _ _ _ _ _ _ _ _ _ _ _ _ _ _ _ _ _ _ _ _ (Or.inl ⟨R, rfl, hR, by rw [er, z_ov_0 hp]; rfl⟩) rfl
  · unfold wX7_other_14
    exact ⟨fun _ => hk _ _ _ _ _ _ _ _ _ _ _ _ _ _ _ _ _ _ _ _ _ _ _ _ _ (Or.inr ⟨fun ⟨R, e, hR⟩ => h ⟨R, e, Nat.zero_le _, hR⟩, rfl⟩) rfl, fun z => absurd rfl z⟩
theorem z_item_v {n e : Nat} (hn : n ≤ 60) (he : e < n) : ∀ i, i < n → (nI i = nI e ↔ i = e) := fun i hi => nI_eq (by omega) (by omega)
theorem s7_without {L : ZL} {t_all : Nat → Int32} {post : Int32 → Int32 → Int32 → Int64 → Int32 → Int64 → Int64 → Int32 → Int32 → Int32 → Int32 → Int64 → Int64 → Int64 → Int32 → (Nat → Int32) → (Nat → Int32) → (Nat → Int64) → (Nat → Int64) → (Nat → Int64) → (Nat → Int64) → (Nat → Int64) → (Nat → Int64) → (Nat → Int64) → (Nat → Int64) → Prop} {t_raised t_many : Int32} {t_room : Int64} {t_breakAt : Int32} {t_breakWeight t_breakProfit : Int64} {t_from t_to t_made t_sets : Int32} {t_bestBits t_bestWeight t_bestProfit : Int64} {t_nexts : Int32} {t_orderOf t_placeOf : Nat → Int32} {t_w t_p t_setBits t_setWeight t_setProfit t_nextProfit t_nextWeight t_nextBits : Nat → Int64} {v1 : Int32} (hl : l_lim L) (hL : y_L L t_all) (hk : ∀ (r t_raised' t_many' : Int32) (t_room' : Int64) (t_breakAt' : Int32) (t_breakWeight' t_breakProfit' : Int64) (t_from' t_to' t_made' t_sets' : Int32) (t_bestBits' t_bestWeight' t_bestProfit' : Int64) (t_nexts' : Int32) (t_orderOf' t_placeOf' : Nat → Int32) (t_w' t_p' t_setBits' t_setWeight' t_setProfit' t_nextProfit' t_nextWeight' t_nextBits' : Nat → Int64), z_without L v1 r → t_raised' = 0 → post r t_raised' t_many' t_room' t_breakAt' t_breakWeight' t_breakProfit' t_from' t_to' t_made' t_sets' t_bestBits' t_bestWeight' t_bestProfit' t_nexts' t_orderOf' t_placeOf' t_w' t_p' t_setBits' t_setWeight' t_setProfit' t_nextProfit' t_nextWeight' t_nextBits') : wX7_without t_all post t_raised t_many t_room t_breakAt t_breakWeight t_breakProfit t_from t_to t_made t_sets t_bestBits t_bestWeight t_bestProfit t_nexts t_orderOf t_placeOf t_w t_p t_setBits t_setWeight t_setProfit t_nextProfit t_nextWeight t_nextBits v1 := by
  obtain ⟨hA, a1, a2, a3, hR, hM2, hM1⟩ := hL.ld hl
  have l1 := hl.1
  unfold wX7_without
  refine s7_isItem l1 hL.1 (fun e ev he => ?_) (fun h => ?_)
  · subst ev
    unfold wX7_without_10
    refine ⟨fun z => absurd z (by decide), fun _ => ?_⟩
    rw [show ((1 : Int32)).toNatClampNeg = 1 from rfl, a1, nI_l (by omega)]
    refine s7_optimum hA a2 hM2 hM1 (by omega) (z_item_v l1 he) (fun hp r m1 m2 m3 m4 m5 m6 m7 m8 m9 m10 m11 m12 m13 m14 m15 m16 m17 m18 m19 m20 m21 m22 m23 er => ?_) (fun hp r m1 m2 m3 m4 m5 m6 m7 m8 m9 m10 m11 m12 m13 m14 m15 m16 m17 m18 m19 m20 m21 m22 m23 er => ?_)
    · unfold wX7_without_25
      exact hk _ _ _ _ _ _ _ _ _ _ _ _ _ _ _ _ _ _ _ _ _ _ _ _ _ (Or.inl ⟨e, rfl, he, by rw [er, lN_i, z_ov_1 hp]⟩) rfl
    · unfold wX7_without_25
      exact hk _ _ _ _ _ _ _ _ _ _ _ _ _ _ _ _ _ _ _ _ _ _ _ _ _ (Or.inl ⟨e, rfl, he, by rw [er, z_ov_0 hp]; rfl⟩) rfl
  · unfold wX7_without_10
    exact ⟨fun _ => hk _ _ _ _ _ _ _ _ _ _ _ _ _ _ _ _ _ _ _ _ _ _ _ _ _ (Or.inr ⟨h, rfl⟩) rfl, fun z => absurd rfl z⟩
theorem s7_with {L : ZL} {t_all : Nat → Int32} {post : Int32 → Int32 → Int32 → Int64 → Int32 → Int64 → Int64 → Int32 → Int32 → Int32 → Int32 → Int64 → Int64 → Int64 → Int32 → (Nat → Int32) → (Nat → Int32) → (Nat → Int64) → (Nat → Int64) → (Nat → Int64) → (Nat → Int64) → (Nat → Int64) → (Nat → Int64) → (Nat → Int64) → (Nat → Int64) → Prop} {t_raised t_many : Int32} {t_room : Int64} {t_breakAt : Int32} {t_breakWeight t_breakProfit : Int64} {t_from t_to t_made t_sets : Int32} {t_bestBits t_bestWeight t_bestProfit : Int64} {t_nexts : Int32} {t_orderOf t_placeOf : Nat → Int32} {t_w t_p t_setBits t_setWeight t_setProfit t_nextProfit t_nextWeight t_nextBits : Nat → Int64} {v1 : Int32} (hl : l_lim L) (hL : y_L L t_all) (hk : ∀ (r t_raised' t_many' : Int32) (t_room' : Int64) (t_breakAt' : Int32) (t_breakWeight' t_breakProfit' : Int64) (t_from' t_to' t_made' t_sets' : Int32) (t_bestBits' t_bestWeight' t_bestProfit' : Int64) (t_nexts' : Int32) (t_orderOf' t_placeOf' : Nat → Int32) (t_w' t_p' t_setBits' t_setWeight' t_setProfit' t_nextProfit' t_nextWeight' t_nextBits' : Nat → Int64), z_with L v1 r → t_raised' = 0 → post r t_raised' t_many' t_room' t_breakAt' t_breakWeight' t_breakProfit' t_from' t_to' t_made' t_sets' t_bestBits' t_bestWeight' t_bestProfit' t_nexts' t_orderOf' t_placeOf' t_w' t_p' t_setBits' t_setWeight' t_setProfit' t_nextProfit' t_nextWeight' t_nextBits') : wX7_with t_all post t_raised t_many t_room t_breakAt t_breakWeight t_breakProfit t_from t_to t_made t_sets t_bestBits t_bestWeight t_bestProfit t_nexts t_orderOf t_placeOf t_w t_p t_setBits t_setWeight t_setProfit t_nextProfit t_nextWeight t_nextBits v1 := by
  obtain ⟨hA, a1, a2, a3, hR, hM2, hM1⟩ := hL.ld hl
  have a4 := hL.2.2.2.2
  obtain ⟨l1, l2, l3, l4, l5, l6, l7⟩ := id hl
  unfold wX7_with
  refine s7_isItem l1 hL.1 (fun e ev he => ?_) (fun h => ?_)
  · subst ev
    have lw : L.2.1 e < 2 ^ 31 := Nat.lt_of_le_of_lt (z_sm_1 he) l3
    unfold wX7_with_10
    refine ⟨fun z => absurd z (by decide), fun _ => ?_⟩
    rw [show ((1 : Int32)).toNatClampNeg = 1 from rfl, a1, show (4 : Int32) + nI e = nI (4 + e) from nI_add 4 e, nI_clamp (by omega), (a4 e he).1, nI_leI lw (by omega)]
    refine ⟨vp_in_nI (by omega) (by omega), fun hle => ⟨vp_in_nI (by omega) (by omega), ?_⟩, fun hgt => ?_⟩
    · have hlim : z_lim L.1 L.2.1 L.2.2.1 (L.2.2.2.1 - L.2.1 e) L.2.2.2.2.1 := ⟨l1, l2, l3, l4, by omega, l6, l7⟩
      have hov := z_opt_lt (e := e) hlim
      rw [nI_sub hle, nI_l (by omega)]
      refine s7_optimum hA a2 hM2 hM1 (by omega) (z_item_v l1 he) (fun hp r m1 m2 m3 m4 m5 m6 m7 m8 m9 m10 m11 m12 m13 m14 m15 m16 m17 m18 m19 m20 m21 m22 m23 er => ?_) (fun hp r m1 m2 m3 m4 m5 m6 m7 m8 m9 m10 m11 m12 m13 m14 m15 m16 m17 m18 m19 m20 m21 m22 m23 er => ?_)
      · unfold wX7_with_53
        rw [show (64 : Int32) + nI e = nI (64 + e) from nI_add 64 e, nI_clamp (by omega), (a4 e he).2]
        have hne : ¬ r = -1 := fun z => by
          have h2 : r.toInt = -1 := by rw [z]; rfl
          rw [er, pk_lT (by omega)] at h2
          omega
        refine ⟨fun z => absurd z hne, fun _ => ⟨vp_in_nI (by omega) (by omega), hk _ _ _ _ _ _ _ _ _ _ _ _ _ _ _ _ _ _ _ _ _ _ _ _ _ (Or.inl ⟨e, rfl, he, hle, ?_⟩) rfl⟩⟩
        rw [z_ov_1 hp, if_neg (z_n1 hov), er, lN_i]
      · unfold wX7_with_53
        refine ⟨fun z => hk _ _ _ _ _ _ _ _ _ _ _ _ _ _ _ _ _ _ _ _ _ _ _ _ _ (Or.inl ⟨e, rfl, he, hle, ?_⟩) rfl, fun z => absurd er z⟩
        rw [z_ov_0 hp, if_pos rfl]
    · refine hk _ _ _ _ _ _ _ _ _ _ _ _ _ _ _ _ _ _ _ _ _ _ _ _ _ (Or.inr ⟨fun ⟨j, ej, hj, hw⟩ => ?_, rfl⟩) rfl
      rw [nI_eq (by omega) (by omega)] at ej
      subst ej
      exact hgt hw
  · unfold wX7_with_10
    exact ⟨fun _ => hk _ _ _ _ _ _ _ _ _ _ _ _ _ _ _ _ _ _ _ _ _ _ _ _ _ (Or.inr ⟨fun ⟨j, ej, hj, _⟩ => h ⟨j, ej, hj⟩, rfl⟩) rfl, fun z => absurd rfl z⟩
theorem s7_ahead {L : ZL} {d : ZC} {t_all : Nat → Int32} {post : Int32 → Int32 → Int32 → Int64 → Int32 → Int64 → Int64 → Int32 → Int32 → Int32 → Int32 → Int64 → Int64 → Int64 → Int32 → (Nat → Int32) → (Nat → Int32) → (Nat → Int64) → (Nat → Int64) → (Nat → Int64) → (Nat → Int64) → (Nat → Int64) → (Nat → Int64) → (Nat → Int64) → (Nat → Int64) → Prop} {t_raised t_many : Int32} {t_room : Int64} {t_breakAt : Int32} {t_breakWeight t_breakProfit : Int64} {t_from t_to t_made t_sets : Int32} {t_bestBits t_bestWeight t_bestProfit : Int64} {t_nexts : Int32} {t_orderOf t_placeOf : Nat → Int32} {t_w t_p t_setBits t_setWeight t_setProfit t_nextProfit t_nextWeight t_nextBits : Nat → Int64} {v1 : Int32} (hl : l_lim L) (hL : y_L L t_all) (ha : l_at L d) (hk : ∀ (r t_raised' t_many' : Int32) (t_room' : Int64) (t_breakAt' : Int32) (t_breakWeight' t_breakProfit' : Int64) (t_from' t_to' t_made' t_sets' : Int32) (t_bestBits' t_bestWeight' t_bestProfit' : Int64) (t_nexts' : Int32) (t_orderOf' t_placeOf' : Nat → Int32) (t_w' t_p' t_setBits' t_setWeight' t_setProfit' t_nextProfit' t_nextWeight' t_nextBits' : Nat → Int64), (v1 = 0 → r = nI ((l_end L d).2.2.1 - L.2.2.2.2.2)) → (¬ v1 = 0 → r = nI (z_gm (l_n L) (l_w L) (l_p L) L.2.2.2.1 L.2.2.2.2.1 60 d d.2.2.2.1.length)) → t_raised' = 0 → post r t_raised' t_many' t_room' t_breakAt' t_breakWeight' t_breakProfit' t_from' t_to' t_made' t_sets' t_bestBits' t_bestWeight' t_bestProfit' t_nexts' t_orderOf' t_placeOf' t_w' t_p' t_setBits' t_setWeight' t_setProfit' t_nextProfit' t_nextWeight' t_nextBits') : wX7_ahead t_all post t_raised t_many t_room t_breakAt t_breakWeight t_breakProfit t_from t_to t_made t_sets t_bestBits t_bestWeight t_bestProfit t_nexts t_orderOf t_placeOf t_w t_p t_setBits t_setWeight t_setProfit t_nextProfit t_nextWeight t_nextBits v1 := by
  have hlo := hL.ld hl
  obtain ⟨hok, hK⟩ := ha.ok hl
  have hbd := z_lim_bd hl 60
  have hcl : l_n L = z_c 60 L.1 := rfl
  have hckl : l_bk L = z_bk (z_w 60 L.2.1 L.2.2.1 L.1) L.2.2.2.1 (z_c 60 L.1) 0 := rfl
  have hcn := z_c60 hl.1
  obtain ⟨a0, a1, a2, a3, a4⟩ := id hL
  obtain ⟨l1, l2, l3, l4, l5, l6, l7⟩ := id hl
  have hoke : l_okc L (l_end L d) := z_end_ok hok
  have hlime := hoke.1
  have hlimd := hok.1
  obtain ⟨i, -, hi, hie⟩ := z_end_run (k := 60) ha
  have hie' : (l_end L d).2.2.1 + L.2.2.2.2.2 = d.2.2.1 + i := hie
  unfold wX7_ahead
  refine s7_lays hlo ha (fun nx orderOf placeOf tw tp sb sw sp np nw nb harr hy => ?_)
  unfold wX7_ahead_9
  generalize nI (z_bk (z_w 60 L.2.1 L.2.2.1 L.1) L.2.2.2.1 (z_c 60 L.1) 0) = y1
  generalize lN (z_sm (z_w 60 L.2.1 L.2.2.1 L.1) (z_bk (z_w 60 L.2.1 L.2.2.1 L.1) L.2.2.2.1 (z_c 60 L.1) 0)) = y2
  generalize lN (z_sm (z_p 60 L.2.1 L.2.2.1 L.1) (z_bk (z_w 60 L.2.1 L.2.2.1 L.1) L.2.2.2.1 (z_c 60 L.1) 0)) = y3
  have fin : ∀ (c : ZC) (a : Nat) (nx : Int32) (sb sw sp np nw nb : Nat → Int64), c = l_end L d → a = z_gm (l_n L) (l_w L) (l_p L) L.2.2.2.1 L.2.2.2.2.1 60 d d.2.2.2.1.length →
      wX7_ahead_60 t_all post 0 (nI (z_c 60 L.1)) (lN L.2.2.2.1) y1 y2 y3 (nI c.1) (y_to c.2.1) (nI c.2.2.1) (nI c.2.2.2.1.length) (lN c.2.2.2.2.2.2) (lN c.2.2.2.2.1) (lN c.2.2.2.2.2.1) nx orderOf placeOf tw tp sb sw sp np nw nb v1 (nI d.2.2.1) (nI a) := by
    intro c a nx sb sw sp np nw nb hc hga
    unfold wX7_ahead_60
    refine ⟨fun z => hk _ _ _ _ _ _ _ _ _ _ _ _ _ _ _ _ _ _ _ _ _ _ _ _ _ (fun _ => ?_) (fun y => absurd z y) rfl, fun z => hk _ _ _ _ _ _ _ _ _ _ _ _ _ _ _ _ _ _ _ _ _ _ _ _ _ (fun y => absurd y z) (fun _ => by rw [hga]) rfl⟩
    rw [hc, nI_sub (by omega), hK]
  have main : ∀ (k : Nat) (c : ZC) (a : Nat) (nx : Int32) (sb sw sp np nw nb : Nat → Int64), l_okc L c → l_n L ≤ c.2.2.1 + k → c.2.2.2.1.length ≤ a → a ≤ 1000 → z_end (l_n L) (l_w L) (l_p L) L.2.2.2.1 L.2.2.2.2.1 k c = l_end L d → z_gm (l_n L) (l_w L) (l_p L) L.2.2.2.1 L.2.2.2.2.1 k c a = z_gm (l_n L) (l_w L) (l_p L) L.2.2.2.1 L.2.2.2.2.1 60 d d.2.2.2.1.length → y_set c.2.2.2.1 sw sp sb →
      wX7_ahead_22 t_all post (k + 2) 0 (nI (z_c 60 L.1)) (lN L.2.2.2.1) y1 y2 y3 (nI c.1) (y_to c.2.1) (nI c.2.2.1) (nI c.2.2.2.1.length) (lN c.2.2.2.2.2.2) (lN c.2.2.2.2.1) (lN c.2.2.2.2.2.1) nx orderOf placeOf tw tp sb sw sp np nw nb v1 (nI d.2.2.1) (nI a) 1 := by
    intro k
    induction k with
    | zero =>
      intro c a nx sb sw sp np nw nb hokc hK2 hca ha1 he hg hyc
      have l9 := hokc.1
      have hp : z_proved (l_n L) c = true := by unfold z_proved; rw [decide_eq_true_iff]; exact Or.inr ⟨by omega, by omega⟩
      rw [wX7_ahead_22]
      unfold wX7_ahead_22_b
      refine ⟨fun z => absurd z (by decide), fun _ => ?_⟩
      refine s7_isProved (by omega) (by omega) (by omega) (Nat.le_trans hokc.2.2.2.1 l7) (fun _ => ?_) (fun h => absurd (of_decide_eq_true hp) h)
      unfold wX7_ahead_31
      exact ⟨fun z => absurd z (by decide), fun _ => fin c a _ _ _ _ _ _ _ he hg⟩
    | succ k ih =>
      intro c a nx sb sw sp np nw nb hokc hK2 hca ha1 he hg hyc
      have l9 := hokc.1
      rw [z_end] at he
      rw [z_gm] at hg
      rw [wX7_ahead_22]
      unfold wX7_ahead_22_b
      refine ⟨fun z => absurd z (by decide), fun _ => ?_⟩
      refine s7_isProved (by omega) (by omega) (by omega) (Nat.le_trans hokc.2.2.2.1 l7) (fun h => ?_) (fun h => ?_)
      · have hp : z_proved (l_n L) c = true := by unfold z_proved; rw [decide_eq_true_iff]; exact h
        rw [if_pos hp] at he hg
        unfold wX7_ahead_31
        exact ⟨fun z => absurd z (by decide), fun _ => fin c a _ _ _ _ _ _ _ he hg⟩
      · have hp : ¬ z_proved (l_n L) c = true := by unfold z_proved; rw [decide_eq_true_iff]; exact h
        rw [if_neg hp] at he hg
        unfold wX7_ahead_31
        refine ⟨fun _ => ?_, fun z => absurd rfl z⟩
        refine s7_goes hbd harr.2.2 hokc hp a2 l7 (by omega) hyc (fun hs nx np nw nb => ?_) (fun c3 hs nx sw sb sp np nw nb hy2 => ?_)
        · rw [hs] at he hg
          unfold wX7_ahead_38
          rw [nI_leI (by omega) (by omega)]
          refine ⟨fun _ => ?_, fun z => absurd hca z⟩
          unfold wX7_ahead_56
          rw [wX7_ahead_22]
          unfold wX7_ahead_22_b
          exact ⟨fun _ => fin c a _ _ _ _ _ _ _ he hg, fun z => absurd rfl z⟩
        · rw [hs] at he hg
          have hok3 := z_step_ok hokc hp hs
          have hm3 := (z_step_some hs).2.2.2
          have hl3 := hok3.2.2.2.1
          unfold wX7_ahead_38
          rw [nI_leI (by omega) (by omega)]
          refine ⟨fun q => ?_, fun q => ?_⟩
          · unfold wX7_ahead_56
            have hg' : z_gm (l_n L) (l_w L) (l_p L) L.2.2.2.1 L.2.2.2.2.1 k c3 (if a < c3.2.2.2.1.length then c3.2.2.2.1.length else a) = _ := hg
            rw [if_neg (by omega)] at hg'
            exact ih c3 a nx sb sw sp np nw nb hok3 (by omega) (by omega) ha1 he hg' hy2
          · unfold wX7_ahead_56
            have hg' : z_gm (l_n L) (l_w L) (l_p L) L.2.2.2.1 L.2.2.2.2.1 k c3 (if a < c3.2.2.2.1.length then c3.2.2.2.1.length else a) = _ := hg
            rw [if_pos (by omega)] at hg'
            exact ih c3 c3.2.2.2.1.length nx sb sw sp np nw nb hok3 (by omega) (Nat.le_refl _) (by omega) he hg' hy2
  exact ⟨62, main 60 d _ _ _ _ _ _ _ _ hok (by omega) (Nat.le_refl _) (Nat.le_trans hok.2.2.2.1 l7) rfl rfl hy⟩
