/-! item, reduced, order, set, best, greedy, swap -/
/-- the place of an item -/
abbrev l_pl (L : ZL) (i : Nat) : Nat := z_pl (z_o 60 L.2.1 L.2.2.1 (l_n L)) i (l_n L)
theorem l_pl_lt {L : ZL} {i : Nat} (h : i < l_n L) : l_pl L i < l_n L := (z_pl_spec (z_ord_surj h)).1
/-- what item answers; none: it throws -/
def z_item (L : ZL) (d : ZC) (v1 v2 : Int32) (r : Option Int32) : Prop :=
  (¬ (∃ i, v1 = nI i ∧ i < L.1) ∧ r = none) ∨ ∃ i, v1 = nI i ∧ i < L.1 ∧ r = (if v2 = 0 then some (nI (L.2.1 i)) else if v2 = 1 then some (nI (L.2.2.1 i)) else if v2 = 2 then some (nI (l_pl L i)) else if v2 = 3 then some (z_one (z_on d.2.2.2.2.2.2 (l_pl L i))) else if v2 = 4 then some (z_one (z_fix (l_n L) (l_w L) (l_p L) L.2.2.2.1 d.2.2.2.2.2.1 (l_pl L i))) else none)
theorem z_item_un {L : ZL} {d : ZC} {v1 v2 : Int32} {a b : Option Int32} (hl : L.1 ≤ 60) (ha : z_item L d v1 v2 a) (hb : z_item L d v1 v2 b) : a = b := by
  rcases ha with ⟨h1, rfl⟩ | ⟨i, rfl, hi, ea⟩
  · rcases hb with ⟨_, rfl⟩ | ⟨i, e, hi, _⟩
    · rfl
    · exact absurd ⟨i, e, hi⟩ h1
  · rcases hb with ⟨h1, rfl⟩ | ⟨j, e, hj, eb⟩
    · exact absurd ⟨i, rfl, hi⟩ h1
    · rw [nI_eq (by omega) (by omega)] at e
      subst e
      rw [ea, eb]
theorem s6_item {L : ZL} {d : ZC} {px : Prop} {t_now_load_items t_core_bestProfit : Int32} {t_core_bestBits : Int64} {t_core_ranked_items t_core_ranked_room t_core_ranked_breakPlace t_core_ranked_breakWeight t_core_ranked_breakProfit : Int32} {t_core_ranked_placeOf t_core_ranked_profits t_core_ranked_weights t_now_load_profits t_now_load_weights : Nat → Int32} {post : Int32 → Prop} {v1 v2 : Int32} {t_now_load_room t_now_load_most t_now_load_steps t_core_most t_core_from t_core_to t_core_steps t_core_bestWeight t_core_sets_size : Int32} {t_core_ranked_itemAt t_core_sets_weights t_core_sets_profits : Nat → Int32} {t_core_sets_bits : Nat → Int64} (hl : l_lim L) (hx : x_L L t_now_load_items t_now_load_room t_now_load_most t_now_load_steps t_now_load_weights t_now_load_profits) (ha : l_at L d) (hd : l_core L d t_core_most t_core_from t_core_to t_core_steps t_core_bestWeight t_core_bestProfit t_core_bestBits t_core_ranked_items t_core_ranked_room t_core_ranked_breakPlace t_core_ranked_breakWeight t_core_ranked_breakProfit t_core_sets_size t_core_ranked_itemAt t_core_ranked_placeOf t_core_ranked_weights t_core_ranked_profits t_core_sets_weights t_core_sets_profits t_core_sets_bits) (hk : ∀ r, z_item L d v1 v2 (some r) → post r) (h0 : z_item L d v1 v2 none → px) :
    wX6_item px t_now_load_items t_core_bestProfit t_core_bestBits t_core_ranked_items t_core_ranked_room t_core_ranked_breakPlace t_core_ranked_breakWeight t_core_ranked_breakProfit t_core_ranked_placeOf t_core_ranked_profits t_core_ranked_weights t_now_load_profits t_now_load_weights post v1 v2 := by
  obtain ⟨hok, hK⟩ := ha.ok hl
  have hbd := z_lim_bd hl 60
  have hcl : l_n L = z_c 60 L.1 := rfl
  have hckl : l_bk L = z_bk (z_w 60 L.2.1 L.2.2.1 L.1) L.2.2.2.1 (z_c 60 L.1) 0 := rfl
  have hcn := z_c60 hl.1
  have hlim := hok.1
  obtain ⟨l1, l2, l3, l4, l5, l6, l7⟩ := id hl
  obtain ⟨rfl, rfl, rfl, rfl, hA⟩ := hx
  obtain ⟨rfl, rfl, rfl, rfl, rfl, rfl, rfl, rfl, rfl, rfl, rfl, rfl, rfl, harr, hset⟩ := hd
  have hbest := z_in_lt hbd (Nat.le_refl _) hok.2.2.2.2.1
  unfold wX6_item
  refine s1_has l1 (fun i e hi => ?_) (fun h => ?_)
  · subst e
    have hpl := l_pl_lt (L := L) (i := i) (by omega)
    have hp2 := harr.2.1 i (show i < z_c 60 L.1 by omega)
    have fin : ∀ r, r = (if v2 = 0 then some (nI (L.2.1 i)) else if v2 = 1 then some (nI (L.2.2.1 i)) else if v2 = 2 then some (nI (l_pl L i)) else if v2 = 3 then some (z_one (z_on d.2.2.2.2.2.2 (l_pl L i))) else if v2 = 4 then some (z_one (z_fix (l_n L) (l_w L) (l_p L) L.2.2.2.1 d.2.2.2.2.2.1 (l_pl L i))) else none) → z_item L d (nI i) v2 r := fun r e => Or.inr ⟨i, rfl, hi, e⟩
    unfold wX6_item_11
    rw [nI_clamp (by omega), hp2]
    refine ⟨fun z => absurd z (by decide), fun _ => ⟨fun e0 => ⟨vp_in_nI (by omega) (by omega), hk _ (fin _ (by rw [if_pos e0, (hA i hi).1]))⟩, fun e0 => ⟨fun e1 => ⟨vp_in_nI (by omega) (by omega), hk _ (fin _ (by rw [if_neg e0, if_pos e1, (hA i hi).2]))⟩, fun e1 => ⟨fun e2 => ⟨vp_in_nI (by omega) (by omega), hk _ (fin _ (by rw [if_neg e0, if_neg e1, if_pos e2]))⟩, fun e2 => ⟨fun e3 => ⟨vp_in_nI (by omega) (by omega), ?_⟩, fun e3 => ⟨fun e4 => ⟨vp_in_nI (by omega) (by omega), ?_⟩, fun e4 => h0 (fin _ (by rw [if_neg e0, if_neg e1, if_neg e2, if_neg e3, if_neg e4]))⟩⟩⟩⟩⟩⟩
    · refine s0_bestHas (by omega) (by omega) hpl (fun g => ?_) (fun g => ?_)
      · unfold wX6_item_118
        exact ⟨fun z => absurd z (by decide), fun _ => hk _ (fin _ (by rw [if_neg e0, if_neg e1, if_neg e2, if_pos e3, g]; rfl))⟩
      · unfold wX6_item_118
        exact ⟨fun _ => hk _ (fin _ (by rw [if_neg e0, if_neg e1, if_neg e2, if_pos e3, g]; rfl)), fun z => absurd rfl z⟩
    · refine s6_isFixed hbd harr.2.2 (by omega) hpl hbest.2.1 (fun g => ?_) (fun g => ?_)
      · unfold wX6_item_143
        exact ⟨fun z => absurd z (by decide), fun _ => hk _ (fin _ (by rw [if_neg e0, if_neg e1, if_neg e2, if_neg e3, if_pos e4, g]; rfl))⟩
      · unfold wX6_item_143
        exact ⟨fun _ => hk _ (fin _ (by rw [if_neg e0, if_neg e1, if_neg e2, if_neg e3, if_pos e4, g]; rfl)), fun z => absurd rfl z⟩
  · unfold wX6_item_11
    exact ⟨fun _ => h0 (Or.inl ⟨h, rfl⟩), fun z => absurd rfl z⟩
theorem z_in4 {v : Int32} (h : ¬ ∃ m, v = nI m ∧ 0 ≤ m ∧ m ≤ 4) : ¬ v = 0 ∧ ¬ v = 1 ∧ ¬ v = 2 ∧ ¬ v = 3 ∧ ¬ v = 4 :=
  ⟨fun e => h ⟨0, e, by omega, by omega⟩, fun e => h ⟨1, e, by omega, by omega⟩, fun e => h ⟨2, e, by omega, by omega⟩, fun e => h ⟨3, e, by omega, by omega⟩, fun e => h ⟨4, e, by omega, by omega⟩⟩
theorem z_in4' {m : Nat} (h : m ≤ 4) (h0 : ¬ nI m = 0) (h1 : ¬ nI m = 1) (h2 : ¬ nI m = 2) (h3 : ¬ nI m = 3) : nI m = 4 := by
  have e : m = 0 ∨ m = 1 ∨ m = 2 ∨ m = 3 ∨ m = 4 := by omega
  rcases e with rfl | rfl | rfl | rfl | rfl
  · exact absurd rfl h0
  · exact absurd rfl h1
  · exact absurd rfl h2
  · exact absurd rfl h3
  · rfl
theorem s7_item {L : ZL} {d : ZC} {t_all : Nat → Int32} {post : Int32 → Int32 → Int32 → Int64 → Int32 → Int64 → Int64 → Int32 → Int32 → Int32 → Int32 → Int64 → Int64 → Int64 → Int32 → (Nat → Int32) → (Nat → Int32) → (Nat → Int64) → (Nat → Int64) → (Nat → Int64) → (Nat → Int64) → (Nat → Int64) → (Nat → Int64) → (Nat → Int64) → (Nat → Int64) → Prop} {t_raised t_many : Int32} {t_room : Int64} {t_breakAt : Int32} {t_breakWeight t_breakProfit : Int64} {t_from t_to t_made t_sets : Int32} {t_bestBits t_bestWeight t_bestProfit : Int64} {t_nexts : Int32} {t_orderOf t_placeOf : Nat → Int32} {t_w t_p t_setBits t_setWeight t_setProfit t_nextProfit t_nextWeight t_nextBits : Nat → Int64} {v1 v2 : Int32} (hl : l_lim L) (hL : y_L L t_all) (ha : l_at L d) (hk : ∀ (r t_raised' t_many' : Int32) (t_room' : Int64) (t_breakAt' : Int32) (t_breakWeight' t_breakProfit' : Int64) (t_from' t_to' t_made' t_sets' : Int32) (t_bestBits' t_bestWeight' t_bestProfit' : Int64) (t_nexts' : Int32) (t_orderOf' t_placeOf' : Nat → Int32) (t_w' t_p' t_setBits' t_setWeight' t_setProfit' t_nextProfit' t_nextWeight' t_nextBits' : Nat → Int64), z_item L d v1 v2 (some r) → t_raised' = 0 → post r t_raised' t_many' t_room' t_breakAt' t_breakWeight' t_breakProfit' t_from' t_to' t_made' t_sets' t_bestBits' t_bestWeight' t_bestProfit' t_nexts' t_orderOf' t_placeOf' t_w' t_p' t_setBits' t_setWeight' t_setProfit' t_nextProfit' t_nextWeight' t_nextBits') (h0 : z_item L d v1 v2 none → ∀ (r t_raised' t_many' : Int32) (t_room' : Int64) (t_breakAt' : Int32) (t_breakWeight' t_breakProfit' : Int64) (t_from' t_to' t_made' t_sets' : Int32) (t_bestBits' t_bestWeight' t_bestProfit' : Int64) (t_nexts' : Int32) (t_orderOf' t_placeOf' : Nat → Int32) (t_w' t_p' t_setBits' t_setWeight' t_setProfit' t_nextProfit' t_nextWeight' t_nextBits' : Nat → Int64), t_raised' = 1 → post r t_raised' t_many' t_room' t_breakAt' t_breakWeight' t_breakProfit' t_from' t_to' t_made' t_sets' t_bestBits' t_bestWeight' t_bestProfit' t_nexts' t_orderOf' t_placeOf' t_w' t_p' t_setBits' t_setWeight' t_setProfit' t_nextProfit' t_nextWeight' t_nextBits') : wX7_item t_all post t_raised t_many t_room t_breakAt t_breakWeight t_breakProfit t_from t_to t_made t_sets t_bestBits t_bestWeight t_bestProfit t_nexts t_orderOf t_placeOf t_w t_p t_setBits t_setWeight t_setProfit t_nextProfit t_nextWeight t_nextBits v1 v2 := by
  have hlo := hL.ld hl
  obtain ⟨hok, hK⟩ := ha.ok hl
  have hbd := z_lim_bd hl 60
  have hcl : l_n L = z_c 60 L.1 := rfl
  have hckl : l_bk L = z_bk (z_w 60 L.2.1 L.2.2.1 L.1) L.2.2.2.1 (z_c 60 L.1) 0 := rfl
  have hcn := z_c60 hl.1
  have hlim := hok.1
  obtain ⟨l1, l2, l3, l4, l5, l6, l7⟩ := id hl
  obtain ⟨a0, a1, a2, a3, a4⟩ := id hL
  have hbest := z_in_lt hbd (Nat.le_refl _) hok.2.2.2.2.1
  unfold wX7_item
  refine s7_isItem l1 a0 (fun i e hi => ?_) (fun h => ?_)
  · subst e
    have hpl := l_pl_lt (L := L) (i := i) (by omega)
    have fin : ∀ r, r = (if v2 = 0 then some (nI (L.2.1 i)) else if v2 = 1 then some (nI (L.2.2.1 i)) else if v2 = 2 then some (nI (l_pl L i)) else if v2 = 3 then some (z_one (z_on d.2.2.2.2.2.2 (l_pl L i))) else if v2 = 4 then some (z_one (z_fix (l_n L) (l_w L) (l_p L) L.2.2.2.1 d.2.2.2.2.2.1 (l_pl L i))) else none) → z_item L d (nI i) v2 r := fun r e => Or.inr ⟨i, rfl, hi, e⟩
    unfold wX7_item_6
    refine ⟨fun z => absurd z (by decide), fun _ => ?_⟩
    refine s7_inI (a := 0) (b := 4) (by omega) (by omega) (fun m e _ hm => ?_) (fun h => ?_)
    · unfold wX7_item_18 wX7_item_26
      refine ⟨fun z => absurd z (by decide), fun _ => ⟨fun _ => ?_, fun z => absurd (by decide) z⟩⟩
      refine s7_lays hlo ha (fun nx orderOf placeOf tw tp sb sw sp np nw nb harr hy => ?_)
      have hp2 : placeOf i = nI (l_pl L i) := by
        have := harr.2.1 i (show i < z_c 60 L.1 by omega)
        rw [z_u60 (by omega)] at this
        exact this
      unfold wX7_item_42
      rw [show (4 : Int32) + nI i = nI (4 + i) from nI_add 4 i, show (64 : Int32) + nI i = nI (64 + i) from nI_add 64 i, nI_clamp (by omega), nI_clamp (by omega), nI_clamp (by omega), hp2, (a4 i hi).1, (a4 i hi).2]
      refine ⟨fun e0 => ⟨vp_in_nI (by omega) (by omega), hk _ _ _ _ _ _ _ _ _ _ _ _ _ _ _ _ _ _ _ _ _ _ _ _ _ (fin _ (by rw [if_pos e0])) rfl⟩, fun e0 => ⟨fun e1 => ⟨vp_in_nI (by omega) (by omega), hk _ _ _ _ _ _ _ _ _ _ _ _ _ _ _ _ _ _ _ _ _ _ _ _ _ (fin _ (by rw [if_neg e0, if_pos e1])) rfl⟩, fun e1 => ⟨fun e2 => ⟨vp_in_nI (by omega) (by omega), hk _ _ _ _ _ _ _ _ _ _ _ _ _ _ _ _ _ _ _ _ _ _ _ _ _ (fin _ (by rw [if_neg e0, if_neg e1, if_pos e2])) rfl⟩, fun e2 => ⟨fun e3 => ⟨vp_in_nI (by omega) (by omega), ?_⟩, fun e3 => ⟨vp_in_nI (by omega) (by omega), ?_⟩⟩⟩⟩⟩
      · refine s7_isOn (by omega) (by omega) (fun g => ?_) (fun g => ?_)
        · unfold wX7_item_111
          exact ⟨fun z => absurd z (by decide), fun _ => hk _ _ _ _ _ _ _ _ _ _ _ _ _ _ _ _ _ _ _ _ _ _ _ _ _ (fin _ (by rw [if_neg e0, if_neg e1, if_neg e2, if_pos e3, g]; rfl)) rfl⟩
        · unfold wX7_item_111
          exact ⟨fun _ => hk _ _ _ _ _ _ _ _ _ _ _ _ _ _ _ _ _ _ _ _ _ _ _ _ _ (fin _ (by rw [if_neg e0, if_neg e1, if_neg e2, if_pos e3, g]; rfl)) rfl, fun z => absurd rfl z⟩
      · have e4 : v2 = 4 := by
          subst e
          exact z_in4' hm e0 e1 e2 e3
        refine s7_isFixed hbd harr.2.2 (by omega) hpl hbest.2.1 (fun g => ?_) (fun g => ?_)
        · unfold wX7_item_130
          exact ⟨fun z => absurd z (by decide), fun _ => hk _ _ _ _ _ _ _ _ _ _ _ _ _ _ _ _ _ _ _ _ _ _ _ _ _ (fin _ (by rw [if_neg e0, if_neg e1, if_neg e2, if_neg e3, if_pos e4, g]; rfl)) rfl⟩
        · unfold wX7_item_130
          exact ⟨fun _ => hk _ _ _ _ _ _ _ _ _ _ _ _ _ _ _ _ _ _ _ _ _ _ _ _ _ (fin _ (by rw [if_neg e0, if_neg e1, if_neg e2, if_neg e3, if_pos e4, g]; rfl)) rfl, fun z => absurd rfl z⟩
    · obtain ⟨q0, q1, q2, q3, q4⟩ := z_in4 h
      unfold wX7_item_18 wX7_item_25 wX7_item_26
      refine ⟨fun _ => ⟨fun z => absurd z (by decide), fun _ => h0 (fin _ ?_) _ _ _ _ _ _ _ _ _ _ _ _ _ _ _ _ _ _ _ _ _ _ _ _ _ rfl⟩, fun z => absurd rfl z⟩
      rw [if_neg q0, if_neg q1, if_neg q2, if_neg q3, if_neg q4]
  · unfold wX7_item_6 wX7_item_25 wX7_item_26
    exact ⟨fun _ => ⟨fun z => absurd z (by decide), fun _ => h0 (Or.inl ⟨h, rfl⟩) _ _ _ _ _ _ _ _ _ _ _ _ _ _ _ _ _ _ _ _ _ _ _ _ _ rfl⟩, fun z => absurd rfl z⟩
/-- what reduced answers -/
def z_reduced (L : ZL) (v : Int32) (r : Int64) : Prop :=
  (∃ i, v = nI i ∧ i < L.1 ∧ l_bk L < l_n L ∧ r.toInt = z_red (l_n L) (l_w L) (l_p L) L.2.2.2.1 (l_pl L i)) ∨ (¬ ((∃ i, v = nI i ∧ i < L.1) ∧ l_bk L < l_n L) ∧ r = 0)
theorem z_reduced_un {L : ZL} {v : Int32} {a b : Int64} (hl : L.1 ≤ 60) (ha : z_reduced L v a) (hb : z_reduced L v b) : a = b := by
  rcases ha with ⟨i, rfl, hi, hk, ea⟩ | ⟨h, rfl⟩
  · rcases hb with ⟨j, e, hj, _, eb⟩ | ⟨h, rfl⟩
    · rw [nI_eq (by omega) (by omega)] at e
      subst e
      exact Int64.toInt_inj.mp (by rw [ea, eb])
    · exact absurd ⟨⟨i, rfl, hi⟩, hk⟩ h
  · rcases hb with ⟨j, e, hj, hk, eb⟩ | ⟨_, rfl⟩
    · exact absurd ⟨⟨j, e, hj⟩, hk⟩ h
    · rfl
theorem s6_reduced {L : ZL} {d : ZC} {t_now_load_items t_core_ranked_items t_core_ranked_room t_core_ranked_breakPlace t_core_ranked_breakWeight t_core_ranked_breakProfit : Int32} {t_core_ranked_placeOf t_core_ranked_profits t_core_ranked_weights : Nat → Int32} {post : Int64 → Prop} {v1 : Int32} {t_now_load_room t_now_load_most t_now_load_steps t_core_most t_core_from t_core_to t_core_steps t_core_bestWeight t_core_bestProfit t_core_sets_size : Int32} {t_now_load_weights t_now_load_profits t_core_ranked_itemAt t_core_sets_weights t_core_sets_profits : Nat → Int32} {t_core_bestBits : Int64} {t_core_sets_bits : Nat → Int64} (hl : l_lim L) (hx : x_L L t_now_load_items t_now_load_room t_now_load_most t_now_load_steps t_now_load_weights t_now_load_profits) (hd : l_core L d t_core_most t_core_from t_core_to t_core_steps t_core_bestWeight t_core_bestProfit t_core_bestBits t_core_ranked_items t_core_ranked_room t_core_ranked_breakPlace t_core_ranked_breakWeight t_core_ranked_breakProfit t_core_sets_size t_core_ranked_itemAt t_core_ranked_placeOf t_core_ranked_weights t_core_ranked_profits t_core_sets_weights t_core_sets_profits t_core_sets_bits) (hk : ∀ r, z_reduced L v1 r → post r) : wX6_reduced t_now_load_items t_core_ranked_items t_core_ranked_room t_core_ranked_breakPlace t_core_ranked_breakWeight t_core_ranked_breakProfit t_core_ranked_placeOf t_core_ranked_profits t_core_ranked_weights post v1 := by
  have hbd := z_lim_bd hl 60
  have hcl : l_n L = z_c 60 L.1 := rfl
  have hckl : l_bk L = z_bk (z_w 60 L.2.1 L.2.2.1 L.1) L.2.2.2.1 (z_c 60 L.1) 0 := rfl
  have hcn := z_c60 hl.1
  obtain ⟨l1, l2, l3, l4, l5, l6, l7⟩ := id hl
  obtain ⟨rfl, rfl, rfl, rfl, hA⟩ := hx
  obtain ⟨rfl, rfl, rfl, rfl, rfl, rfl, rfl, rfl, rfl, rfl, rfl, rfl, rfl, harr, hset⟩ := hd
  obtain ⟨b1, b2, b3, b4⟩ := z_bk_ok (R := L.2.2.2.1) hbd
  unfold wX6_reduced
  refine s1_has l1 (fun i e hi => ?_) (fun h => ?_)
  · subst e
    have hpl := l_pl_lt (L := L) (i := i) (by omega)
    have hp2 := harr.2.1 i (show i < z_c 60 L.1 by omega)
    unfold wX6_reduced_11
    refine ⟨fun z => absurd z (by decide), fun _ => ?_⟩
    unfold wX2_breakIsItem
    rw [nI_leI (by omega) (by omega)]
    refine ⟨fun g => ?_, fun g => ?_⟩
    · unfold wX6_reduced_24
      refine ⟨fun _ => hk _ (Or.inr ⟨fun z => ?_, rfl⟩), fun z => absurd rfl z⟩
      have : l_bk L < l_n L := z.2
      omega
    · unfold wX6_reduced_24
      rw [nI_clamp (by omega), hp2]
      refine ⟨fun z => absurd z (by decide), fun _ => ⟨vp_in_nI (by omega) (by omega), ?_⟩⟩
      exact s2_reducedAt hbd harr.2.2 (by omega) hpl (by omega) (fun r hr => hk _ (Or.inl ⟨i, rfl, hi, show l_bk L < l_n L by omega, hr⟩))
  · unfold wX6_reduced_11
    exact ⟨fun _ => hk _ (Or.inr ⟨fun z => h z.1, rfl⟩), fun z => absurd rfl z⟩
theorem s7_reduced {L : ZL} {d : ZC} {t_all : Nat → Int32} {post : Int64 → Int32 → Int32 → Int64 → Int32 → Int64 → Int64 → Int32 → Int32 → Int32 → Int32 → Int64 → Int64 → Int64 → Int32 → (Nat → Int32) → (Nat → Int32) → (Nat → Int64) → (Nat → Int64) → (Nat → Int64) → (Nat → Int64) → (Nat → Int64) → (Nat → Int64) → (Nat → Int64) → (Nat → Int64) → Prop} {t_raised t_many : Int32} {t_room : Int64} {t_breakAt : Int32} {t_breakWeight t_breakProfit : Int64} {t_from t_to t_made t_sets : Int32} {t_bestBits t_bestWeight t_bestProfit : Int64} {t_nexts : Int32} {t_orderOf t_placeOf : Nat → Int32} {t_w t_p t_setBits t_setWeight t_setProfit t_nextProfit t_nextWeight t_nextBits : Nat → Int64} {v1 : Int32} (hl : l_lim L) (hL : y_L L t_all) (ha : l_at L d) (hk : ∀ (r : Int64) (t_raised' t_many' : Int32) (t_room' : Int64) (t_breakAt' : Int32) (t_breakWeight' t_breakProfit' : Int64) (t_from' t_to' t_made' t_sets' : Int32) (t_bestBits' t_bestWeight' t_bestProfit' : Int64) (t_nexts' : Int32) (t_orderOf' t_placeOf' : Nat → Int32) (t_w' t_p' t_setBits' t_setWeight' t_setProfit' t_nextProfit' t_nextWeight' t_nextBits' : Nat → Int64), z_reduced L v1 r → t_raised' = 0 → post r t_raised' t_many' t_room' t_breakAt' t_breakWeight' t_breakProfit' t_from' t_to' t_made' t_sets' t_bestBits' t_bestWeight' t_bestProfit' t_nexts' t_orderOf' t_placeOf' t_w' t_p' t_setBits' t_setWeight' t_setProfit' t_nextProfit' t_nextWeight' t_nextBits') : wX7_reduced t_all post t_raised t_many t_room t_breakAt t_breakWeight t_breakProfit t_from t_to t_made t_sets t_bestBits t_bestWeight t_bestProfit t_nexts t_orderOf t_placeOf t_w t_p t_setBits t_setWeight t_setProfit t_nextProfit t_nextWeight t_nextBits v1 := by
  have hlo := hL.ld hl
  have hbd := z_lim_bd hl 60
  have hcl : l_n L = z_c 60 L.1 := rfl
  have hckl : l_bk L = z_bk (z_w 60 L.2.1 L.2.2.1 L.1) L.2.2.2.1 (z_c 60 L.1) 0 := rfl
  have hcn := z_c60 hl.1
  obtain ⟨l1, l2, l3, l4, l5, l6, l7⟩ := id hl
  obtain ⟨a0, a1, a2, a3, a4⟩ := id hL
  obtain ⟨b1, b2, b3, b4⟩ := z_bk_ok (R := L.2.2.2.1) hbd
  unfold wX7_reduced
  refine s7_lays hlo ha (fun nx orderOf placeOf tw tp sb sw sp np nw nb harr hy => ?_)
  unfold wX7_reduced_9
  refine s7_isItem l1 a0 (fun i e hi => ?_) (fun h => ?_)
  · subst e
    have hpl := l_pl_lt (L := L) (i := i) (by omega)
    have hp2 : placeOf i = nI (l_pl L i) := by
      have := harr.2.1 i (show i < z_c 60 L.1 by omega)
      rw [z_u60 (by omega)] at this
      exact this
    unfold wX7_reduced_14
    refine ⟨fun z => absurd z (by decide), fun _ => ?_⟩
    unfold wX7_isBreak
    rw [nI_leI (by omega) (by omega)]
    refine ⟨fun g => ?_, fun g => ?_⟩
    · unfold wX7_reduced_21
      refine ⟨fun _ => hk _ _ _ _ _ _ _ _ _ _ _ _ _ _ _ _ _ _ _ _ _ _ _ _ _ (Or.inr ⟨fun z => ?_, rfl⟩) rfl, fun z => absurd rfl z⟩
      have : l_bk L < l_n L := z.2
      omega
    · unfold wX7_reduced_21
      rw [nI_clamp (by omega), hp2]
      refine ⟨fun z => absurd z (by decide), fun _ => ⟨vp_in_nI (by omega) (by omega), ?_⟩⟩
      exact s7_reducedAt hbd harr.2.2 (by omega) hpl (by omega) (fun r hr => hk _ _ _ _ _ _ _ _ _ _ _ _ _ _ _ _ _ _ _ _ _ _ _ _ _ (Or.inl ⟨i, rfl, hi, show l_bk L < l_n L by omega, hr⟩) rfl)
  · unfold wX7_reduced_14
    exact ⟨fun _ => hk _ _ _ _ _ _ _ _ _ _ _ _ _ _ _ _ _ _ _ _ _ _ _ _ _ (Or.inr ⟨fun z => h z.1, rfl⟩) rfl, fun z => absurd rfl z⟩
/-- what order answers -/
def z_order (L : ZL) (v r : Int32) : Prop := (∃ i, v = nI i ∧ i < L.1 ∧ r = nI (z_o 60 L.2.1 L.2.2.1 (l_n L) i)) ∨ (¬ (∃ i, v = nI i ∧ i < L.1) ∧ r = -1)
theorem z_order_un {L : ZL} {v a b : Int32} (hl : L.1 ≤ 60) (ha : z_order L v a) (hb : z_order L v b) : a = b := by
  rcases ha with ⟨i, rfl, hi, rfl⟩ | ⟨h, rfl⟩
  · rcases hb with ⟨j, e, hj, rfl⟩ | ⟨h, rfl⟩
    · rw [nI_eq (by omega) (by omega)] at e
      rw [e]
    · exact absurd ⟨i, rfl, hi⟩ h
  · rcases hb with ⟨j, e, hj, eb⟩ | ⟨_, rfl⟩
    · exact absurd ⟨j, e, hj⟩ h
    · rfl
theorem s6_order {L : ZL} {t_core_ranked_itemAt t_core_ranked_placeOf tw tp : Nat → Int32} {post : Int32 → Prop} {v1 : Int32} (hl : l_lim L) (harr : x_arr 60 L.2.1 L.2.2.1 L.1 t_core_ranked_itemAt t_core_ranked_placeOf tw tp) (hk : ∀ r, z_order L v1 r → post r) : wX6_order (nI L.1) t_core_ranked_itemAt post v1 := by
  have hcn := z_c60 hl.1
  have l1 := hl.1
  unfold wX6_order
  refine s1_has l1 (fun i e hi => ?_) (fun h => ?_)
  · subst e
    unfold wX6_order_11
    rw [nI_clamp (by omega), harr.1 i (by omega)]
    exact ⟨fun z => absurd z (by decide), fun _ => ⟨vp_in_nI (by omega) (by omega), hk _ (Or.inl ⟨i, rfl, hi, rfl⟩)⟩⟩
  · unfold wX6_order_11
    exact ⟨fun _ => hk _ (Or.inr ⟨h, rfl⟩), fun z => absurd rfl z⟩
/-- from 0 on, below n -/
theorem s7_inN {v : Int32} {n : Nat} {post : Int32 → Prop} (hn : n < 2 ^ 31) (h1 : ∀ e, v = nI e → e < n → post 1) (h0 : (¬ ∃ e, v = nI e ∧ e < n) → post 0) : wX7_in post v.toInt64 0 (nI n - 1).toInt64 := by
  have e : (nI n - 1).toInt64.toInt = (n : Int) - 1 := by
    rw [Int32.toInt_toInt64]; exact y_to_toInt (by omega)
  refine s7_in (fun g1 g2 => ?_) (fun g => h0 (fun ⟨m, z, hm⟩ => ?_))
  · rw [Int64.le_iff_toInt_le, Int32.toInt_toInt64] at g1
    rw [Int64.le_iff_toInt_le, Int32.toInt_toInt64, e] at g2
    have g1' : 0 ≤ v.toInt := g1
    refine h1 v.toInt.toNat ?_ (by omega)
    rw [← Int32.toInt_inj, nI_toInt (by omega)]
    omega
  · subst z
    rw [Int64.lt_iff_toInt_lt, Int64.lt_iff_toInt_lt, Int32.toInt_toInt64, e, nI_toInt (by omega)] at g
    have g' : (m : Int) < 0 ∨ (n : Int) - 1 < (m : Int) := g
    omega
theorem s7_order {L : ZL} {d : ZC} {t_all : Nat → Int32} {post : Int32 → Int32 → Int32 → Int64 → Int32 → Int64 → Int64 → Int32 → Int32 → Int32 → Int32 → Int64 → Int64 → Int64 → Int32 → (Nat → Int32) → (Nat → Int32) → (Nat → Int64) → (Nat → Int64) → (Nat → Int64) → (Nat → Int64) → (Nat → Int64) → (Nat → Int64) → (Nat → Int64) → (Nat → Int64) → Prop} {t_raised t_many : Int32} {t_room : Int64} {t_breakAt : Int32} {t_breakWeight t_breakProfit : Int64} {t_from t_to t_made t_sets : Int32} {t_bestBits t_bestWeight t_bestProfit : Int64} {t_nexts : Int32} {t_orderOf t_placeOf : Nat → Int32} {t_w t_p t_setBits t_setWeight t_setProfit t_nextProfit t_nextWeight t_nextBits : Nat → Int64} {v1 : Int32} (hl : l_lim L) (hL : y_L L t_all) (ha : l_at L d) (hk : ∀ (r t_raised' t_many' : Int32) (t_room' : Int64) (t_breakAt' : Int32) (t_breakWeight' t_breakProfit' : Int64) (t_from' t_to' t_made' t_sets' : Int32) (t_bestBits' t_bestWeight' t_bestProfit' : Int64) (t_nexts' : Int32) (t_orderOf' t_placeOf' : Nat → Int32) (t_w' t_p' t_setBits' t_setWeight' t_setProfit' t_nextProfit' t_nextWeight' t_nextBits' : Nat → Int64), z_order L v1 r → t_raised' = 0 → post r t_raised' t_many' t_room' t_breakAt' t_breakWeight' t_breakProfit' t_from' t_to' t_made' t_sets' t_bestBits' t_bestWeight' t_bestProfit' t_nexts' t_orderOf' t_placeOf' t_w' t_p' t_setBits' t_setWeight' t_setProfit' t_nextProfit' t_nextWeight' t_nextBits') : wX7_order t_all post t_raised t_many t_room t_breakAt t_breakWeight t_breakProfit t_from t_to t_made t_sets t_bestBits t_bestWeight t_bestProfit t_nexts t_orderOf t_placeOf t_w t_p t_setBits t_setWeight t_setProfit t_nextProfit t_nextWeight t_nextBits v1 := by
  have hlo := hL.ld hl
  have hcn := z_c60 hl.1
  have l1 := hl.1
  unfold wX7_order
  refine s7_lays hlo ha (fun nx orderOf placeOf tw tp sb sw sp np nw nb harr hy => ?_)
  unfold wX7_order_9
  refine s7_inN (by omega) (fun i e hi => ?_) (fun h => ?_)
  · subst e
    have hz : z_o 60 L.2.1 L.2.2.1 (z_c 60 L.1) i < z_c 60 L.1 := z_ord_lt hi
    have ho := harr.1 i hi
    rw [z_u60 (by omega)] at ho
    unfold wX7_order_22
    rw [nI_clamp (by omega), ho]
    exact ⟨fun z => absurd z (by decide), fun _ => ⟨vp_in_nI (by omega) (by omega), hk _ _ _ _ _ _ _ _ _ _ _ _ _ _ _ _ _ _ _ _ _ _ _ _ _ (Or.inl ⟨i, rfl, by omega, rfl⟩) rfl⟩⟩
  · unfold wX7_order_22
    exact ⟨fun _ => hk _ _ _ _ _ _ _ _ _ _ _ _ _ _ _ _ _ _ _ _ _ _ _ _ _ (Or.inr ⟨fun ⟨i, e, hi⟩ => h ⟨i, e, by omega⟩, rfl⟩) rfl, fun z => absurd rfl z⟩
theorem s7_best {L : ZL} {d : ZC} {t_all : Nat → Int32} {post : Int64 → Int32 → Int32 → Int64 → Int32 → Int64 → Int64 → Int32 → Int32 → Int32 → Int32 → Int64 → Int64 → Int64 → Int32 → (Nat → Int32) → (Nat → Int32) → (Nat → Int64) → (Nat → Int64) → (Nat → Int64) → (Nat → Int64) → (Nat → Int64) → (Nat → Int64) → (Nat → Int64) → (Nat → Int64) → Prop} {t_raised t_many : Int32} {t_room : Int64} {t_breakAt : Int32} {t_breakWeight t_breakProfit : Int64} {t_from t_to t_made t_sets : Int32} {t_bestBits t_bestWeight t_bestProfit : Int64} {t_nexts : Int32} {t_orderOf t_placeOf : Nat → Int32} {t_w t_p t_setBits t_setWeight t_setProfit t_nextProfit t_nextWeight t_nextBits : Nat → Int64} (hl : l_lim L) (hL : y_L L t_all) (ha : l_at L d) (hk : ∀ (r : Int64) (t_raised' t_many' : Int32) (t_room' : Int64) (t_breakAt' : Int32) (t_breakWeight' t_breakProfit' : Int64) (t_from' t_to' t_made' t_sets' : Int32) (t_bestBits' t_bestWeight' t_bestProfit' : Int64) (t_nexts' : Int32) (t_orderOf' t_placeOf' : Nat → Int32) (t_w' t_p' t_setBits' t_setWeight' t_setProfit' t_nextProfit' t_nextWeight' t_nextBits' : Nat → Int64), r = lN d.2.2.2.2.2.2 → t_raised' = 0 → post r t_raised' t_many' t_room' t_breakAt' t_breakWeight' t_breakProfit' t_from' t_to' t_made' t_sets' t_bestBits' t_bestWeight' t_bestProfit' t_nexts' t_orderOf' t_placeOf' t_w' t_p' t_setBits' t_setWeight' t_setProfit' t_nextProfit' t_nextWeight' t_nextBits') : wX7_best t_all post t_raised t_many t_room t_breakAt t_breakWeight t_breakProfit t_from t_to t_made t_sets t_bestBits t_bestWeight t_bestProfit t_nexts t_orderOf t_placeOf t_w t_p t_setBits t_setWeight t_setProfit t_nextProfit t_nextWeight t_nextBits := by
  have hlo := hL.ld hl
  unfold wX7_best
  refine s7_lays hlo ha (fun nx orderOf placeOf tw tp sb sw sp np nw nb harr hy => ?_)
  exact hk _ _ _ _ _ _ _ _ _ _ _ _ _ _ _ _ _ _ _ _ _ _ _ _ _ rfl rfl
