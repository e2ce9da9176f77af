/-! set -/
/-- a set that is there fits, or items can still go -/
def z_fb (R : Nat) (d : ZC) : Prop := ∀ s ∈ d.2.2.2.1, s.1 ≤ R ∨ 0 < d.1
theorem z_fb_step {n : Nat} {w p : Nat → Nat} {R M : Nat} {c d : ZC} (h : z_step n w p R M c = some d) : z_fb R d := by
  obtain ⟨-, rfl, -, -⟩ := z_step_some h
  intro s hs
  unfold z_to at hs ⊢
  split at hs
  · next hr =>
    rw [if_pos hr]
    exact (of_decide_eq_true (List.mem_filter.mp hs).2).1
  · next hr =>
    rw [if_neg hr]
    exact (of_decide_eq_true (List.mem_filter.mp hs).2).1
theorem z_fb_begin {n : Nat} {w p : Nat → Nat} {R : Nat} : z_fb R (z_begin n w p R) := fun s hs => by
  obtain ⟨-, -, h3⟩ := z_bk_spec (w := w) (R := R) (r := n) (k := 0) (Nat.zero_le _)
  rw [List.mem_singleton.mp hs]
  exact Or.inl h3
theorem z_fb_run {n : Nat} {w p : Nat → Nat} {R M : Nat} : ∀ {k : Nat} {c d : ZC}, z_fb R c → z_run n w p R M k c = some d → z_fb R d
  | 0, c, d, h, hd => by cases hd; exact h
  | k + 1, c, d, h, hd => by
    unfold z_run at hd
    split at hd
    · cases hd
    · cases hs : z_step n w p R M c with
      | none => rw [hs] at hd; cases hd
      | some e => rw [hs] at hd; exact z_fb_run (z_fb_step hs) (show z_run n w p R M k e = some d from hd)
theorem l_at.fb {L : ZL} {d : ZC} (h : l_at L d) : z_fb L.2.2.2.1 d := z_fb_run z_fb_begin h
def z_set (L : ZL) (d : ZC) (v1 v2 : Int32) (r : Option Int64) : Prop :=
  (¬ (∃ i, v1 = nI i ∧ i < d.2.2.2.1.length) ∧ r = none) ∨ ∃ i, ∃ h : i < d.2.2.2.1.length, v1 = nI i ∧ r = (if v2 = 0 then some (lN (d.2.2.2.1[i]).1) else if v2 = 1 then some (lN (d.2.2.2.1[i]).2.1) else if v2 = 2 then some (Int64.ofInt (z_bd (l_n L) (l_w L) (l_p L) L.2.2.2.1 d.1 d.2.1 d.2.2.2.1[i])) else if v2 = 3 then some (lN (d.2.2.2.1[i]).2.2) else if v2 = 4 then some (lN (z_many (z_on (d.2.2.2.1[i]).2.2) 60)) else none)
theorem z_set_un {L : ZL} {d : ZC} {v1 v2 : Int32} {a b : Option Int64} (hl : d.2.2.2.1.length ≤ 1000) (ha : z_set L d v1 v2 a) (hb : z_set L d v1 v2 b) : a = b := by
  rcases ha with ⟨h1, rfl⟩ | ⟨i, hi, rfl, ea⟩
  · rcases hb with ⟨_, rfl⟩ | ⟨i, hi, e, _⟩
    · rfl
    · exact absurd ⟨i, e, hi⟩ h1
  · rcases hb with ⟨h1, rfl⟩ | ⟨j, hj, e, eb⟩
    · exact absurd ⟨i, rfl, hi⟩ h1
    · rw [nI_eq (by omega) (by omega)] at e
      subst e
      rw [ea, eb]
theorem s4_has {n : Nat} {v : Int32} {post : Int32 → Prop} (hn : n < 2 ^ 31) (h1 : ∀ e, v = nI e → e < n → post 1) (h0 : (¬ ∃ e, v = nI e ∧ e < n) → post 0) : wX4_has (nI n) post v := by
  have key : (¬ v < 0 ∧ ¬ nI n ≤ v) → post 1 := fun ⟨a, b⟩ => by
    rw [Int32.lt_iff_toInt_lt] at a
    rw [Int32.le_iff_toInt_le, nI_toInt (by omega)] at b
    have a' : ¬ v.toInt < 0 := a
    refine h1 v.toInt.toNat ?_ (by omega)
    rw [← Int32.toInt_inj, nI_toInt (by omega)]
    omega
  have keyN : ¬ (¬ v < 0 ∧ ¬ nI n ≤ v) → post 0 := fun g => h0 (fun ⟨e, he, hl⟩ => g (by
    subst he
    exact ⟨nI_nlt (b := 0) (Nat.zero_le _) (by omega), by rw [nI_leI (by omega) (by omega)]; omega⟩))
  unfold wX4_has
  exact ⟨fun g => keyN (fun z => z.1 g), fun g => ⟨fun y => keyN (fun z => z.2 y), fun y => key ⟨g, y⟩⟩⟩
theorem s6_set {L : ZL} {d : ZC} {cap : Nat} {px : Prop} {t_core_from t_core_to t_core_sets_size t_core_ranked_items t_core_ranked_room : Int32} {t_core_sets_bits : Nat → Int64} {t_core_sets_weights t_core_sets_profits t_core_ranked_weights t_core_ranked_profits : Nat → Int32} {post : Int64 → Prop} {v1 v2 : Int32} {t_core_most t_core_steps t_core_bestWeight t_core_bestProfit t_core_ranked_breakPlace t_core_ranked_breakWeight t_core_ranked_breakProfit : Int32} {t_core_bestBits : Int64} {t_core_ranked_itemAt t_core_ranked_placeOf : Nat → Int32} (hl : l_lim L) (ha : l_at L d) (hd : l_core L d t_core_most t_core_from t_core_to t_core_steps t_core_bestWeight t_core_bestProfit t_core_bestBits t_core_ranked_items t_core_ranked_room t_core_ranked_breakPlace t_core_ranked_breakWeight t_core_ranked_breakProfit t_core_sets_size t_core_ranked_itemAt t_core_ranked_placeOf t_core_ranked_weights t_core_ranked_profits t_core_sets_weights t_core_sets_profits t_core_sets_bits) (hcap : d.2.2.2.1.length ≤ cap) (hc : cap ≤ 2048) (hk : ∀ r, z_set L d v1 v2 (some r) → post r) (h0 : z_set L d v1 v2 none → px) :
    wX6_set px t_core_from t_core_to t_core_sets_size t_core_ranked_items t_core_ranked_room t_core_sets_bits cap t_core_sets_weights cap t_core_sets_profits cap t_core_ranked_weights t_core_ranked_profits post v1 v2 := by
  obtain ⟨hok, hK⟩ := ha.ok hl
  have hbd := z_lim_bd hl 60
  have hcl : l_n L = z_c 60 L.1 := rfl
  have hckl : l_bk L = z_bk (z_w 60 L.2.1 L.2.2.1 L.1) L.2.2.2.1 (z_c 60 L.1) 0 := rfl
  have hcn := z_c60 hl.1
  have hlim := hok.1
  obtain ⟨l1, l2, l3, l4, l5, l6, l7⟩ := id hl
  obtain ⟨rfl, rfl, rfl, rfl, rfl, rfl, rfl, rfl, rfl, rfl, rfl, rfl, rfl, harr, hset⟩ := hd
  unfold wX6_set
  refine s4_has (by omega) (fun i e hi => ?_) (fun h => ?_)
  · subst e
    obtain ⟨e1, e2, e3⟩ := hset i hi
    have hs := z_in_lt hbd hlim.2.1 (hok.2.2.1 _ (List.getElem_mem hi))
    have hfb := ha.fb _ (List.getElem_mem hi)
    have fin : ∀ r, r = (if v2 = 0 then some (lN (d.2.2.2.1[i]).1) else if v2 = 1 then some (lN (d.2.2.2.1[i]).2.1) else if v2 = 2 then some (Int64.ofInt (z_bd (l_n L) (l_w L) (l_p L) L.2.2.2.1 d.1 d.2.1 d.2.2.2.1[i])) else if v2 = 3 then some (lN (d.2.2.2.1[i]).2.2) else if v2 = 4 then some (lN (z_many (z_on (d.2.2.2.1[i]).2.2) 60)) else none) → z_set L d (nI i) v2 r := fun r e => Or.inr ⟨i, hi, rfl, e⟩
    unfold wX6_set_11
    rw [nI_clamp (by omega), e1, e2, e3, nI_l hs.1, nI_l hs.2.1]
    refine ⟨fun z => absurd z (by decide), fun _ => ⟨fun e0 => ⟨vp_in_nI (by omega) (by omega), hk _ (fin _ (by rw [if_pos e0]))⟩, fun e0 => ⟨fun e1 => ⟨vp_in_nI (by omega) (by omega), hk _ (fin _ (by rw [if_neg e0, if_pos e1]))⟩, fun e1 => ⟨fun e2 => ?_, fun e2 => ⟨fun e3 => ⟨vp_in_nI (by omega) (by omega), hk _ (fin _ (by rw [if_neg e0, if_neg e1, if_neg e2, if_pos e3]))⟩, fun e3 => ⟨fun e4 => ⟨vp_in_nI (by omega) (by omega), ?_⟩, fun e4 => h0 (fin _ (by rw [if_neg e0, if_neg e1, if_neg e2, if_neg e3, if_neg e4]))⟩⟩⟩⟩⟩⟩
    · refine s0_boundOf hbd harr.2.2 (hset i hi).1 (hset i hi).2.1 (by omega) hc (by omega) ⟨hs.1, hs.2.1⟩ hlim.2.1 (by omega) (fun _ r hr => hk _ (fin _ ?_)) (fun z => absurd hfb z)
      rw [if_neg e0, if_neg e1, if_pos e2]
      congr 1
      rw [← hr, Int64.ofInt_toInt]
    · refine s13_bitCount hs.2.2 (hk _ (fin _ ?_))
      rw [if_neg e0, if_neg e1, if_neg e2, if_neg e3, if_pos e4, nI_l (Nat.lt_of_le_of_lt z_many_le (by omega))]
  · unfold wX6_set_11
    exact ⟨fun _ => h0 (Or.inl ⟨h, rfl⟩), fun z => absurd rfl z⟩
theorem s7_set {L : ZL} {d : ZC} {t_all : Nat → Int32} {post : Int64 → Int32 → Int32 → Int64 → Int32 → Int64 → Int64 → Int32 → Int32 → Int32 → Int32 → Int64 → Int64 → Int64 → Int32 → (Nat → Int32) → (Nat → Int32) → (Nat → Int64) → (Nat → Int64) → (Nat → Int64) → (Nat → Int64) → (Nat → Int64) → (Nat → Int64) → (Nat → Int64) → (Nat → Int64) → Prop} {t_raised t_many : Int32} {t_room : Int64} {t_breakAt : Int32} {t_breakWeight t_breakProfit : Int64} {t_from t_to t_made t_sets : Int32} {t_bestBits t_bestWeight t_bestProfit : Int64} {t_nexts : Int32} {t_orderOf t_placeOf : Nat → Int32} {t_w t_p t_setBits t_setWeight t_setProfit t_nextProfit t_nextWeight t_nextBits : Nat → Int64} {v1 v2 : Int32} (hl : l_lim L) (hL : y_L L t_all) (ha : l_at L d) (hk : ∀ (r : Int64) (t_raised' t_many' : Int32) (t_room' : Int64) (t_breakAt' : Int32) (t_breakWeight' t_breakProfit' : Int64) (t_from' t_to' t_made' t_sets' : Int32) (t_bestBits' t_bestWeight' t_bestProfit' : Int64) (t_nexts' : Int32) (t_orderOf' t_placeOf' : Nat → Int32) (t_w' t_p' t_setBits' t_setWeight' t_setProfit' t_nextProfit' t_nextWeight' t_nextBits' : Nat → Int64), z_set L d v1 v2 (some r) → t_raised' = 0 → post r t_raised' t_many' t_room' t_breakAt' t_breakWeight' t_breakProfit' t_from' t_to' t_made' t_sets' t_bestBits' t_bestWeight' t_bestProfit' t_nexts' t_orderOf' t_placeOf' t_w' t_p' t_setBits' t_setWeight' t_setProfit' t_nextProfit' t_nextWeight' t_nextBits') (h0 : z_set L d v1 v2 none → ∀ (r : Int64) (t_raised' t_many' : Int32) (t_room' : Int64) (t_breakAt' : Int32) (t_breakWeight' t_breakProfit' : Int64) (t_from' t_to' t_made' t_sets' : Int32) (t_bestBits' t_bestWeight' t_bestProfit' : Int64) (t_nexts' : Int32) (t_orderOf' t_placeOf' : Nat → Int32) (t_w' t_p' t_setBits' t_setWeight' t_setProfit' t_nextProfit' t_nextWeight' t_nextBits' : Nat → Int64), t_raised' = 1 → post r t_raised' t_many' t_room' t_breakAt' t_breakWeight' t_breakProfit' t_from' t_to' t_made' t_sets' t_bestBits' t_bestWeight' t_bestProfit' t_nexts' t_orderOf' t_placeOf' t_w' t_p' t_setBits' t_setWeight' t_setProfit' t_nextProfit' t_nextWeight' t_nextBits') : wX7_set t_all post t_raised t_many t_room t_breakAt t_breakWeight t_breakProfit t_from t_to t_made t_sets t_bestBits t_bestWeight t_bestProfit t_nexts t_orderOf t_placeOf t_w t_p t_setBits t_setWeight t_setProfit t_nextProfit t_nextWeight t_nextBits v1 v2 := by
  have hlo := hL.ld hl
  obtain ⟨hok, hK⟩ := ha.ok hl
  have hbd := z_lim_bd hl 60
  have hcl : l_n L = z_c 60 L.1 := rfl
  have hckl : l_bk L = z_bk (z_w 60 L.2.1 L.2.2.1 L.1) L.2.2.2.1 (z_c 60 L.1) 0 := rfl
  have hcn := z_c60 hl.1
  have hlim := hok.1
  obtain ⟨l1, l2, l3, l4, l5, l6, l7⟩ := id hl
  have hlen := hok.2.2.2.1
  unfold wX7_set
  refine s7_lays hlo ha (fun nx orderOf placeOf tw tp sb sw sp np nw nb harr hy => ?_)
  unfold wX7_set_4
  refine s7_inN (by omega) (fun i e hi => ?_) (fun h => ?_)
  · subst e
    obtain ⟨e1, e2, e3⟩ := hy i hi
    have hs := z_in_lt hbd hlim.2.1 (hok.2.2.1 _ (List.getElem_mem hi))
    have hfb := ha.fb _ (List.getElem_mem hi)
    have fin : ∀ r, r = (if v2 = 0 then some (lN (d.2.2.2.1[i]).1) else if v2 = 1 then some (lN (d.2.2.2.1[i]).2.1) else if v2 = 2 then some (Int64.ofInt (z_bd (l_n L) (l_w L) (l_p L) L.2.2.2.1 d.1 d.2.1 d.2.2.2.1[i])) else if v2 = 3 then some (lN (d.2.2.2.1[i]).2.2) else if v2 = 4 then some (lN (z_many (z_on (d.2.2.2.1[i]).2.2) 60)) else none) → z_set L d (nI i) v2 r := fun r e => Or.inr ⟨i, hi, rfl, e⟩
    unfold wX7_set_18
    refine ⟨fun z => absurd z (by decide), fun _ => ?_⟩
    refine s7_inI (a := 0) (b := 4) (by omega) (by omega) (fun m e _ hm => ?_) (fun h => ?_)
    · unfold wX7_set_30 wX7_set_38
      refine ⟨fun z => absurd z (by decide), fun _ => ⟨fun _ => ?_, fun z => absurd (by decide) z⟩⟩
      rw [nI_clamp (by omega), e1, e2, e3]
      refine ⟨fun e0 => ⟨vp_in_nI (by omega) (by omega), hk _ _ _ _ _ _ _ _ _ _ _ _ _ _ _ _ _ _ _ _ _ _ _ _ _ (fin _ (by rw [if_pos e0])) rfl⟩, fun e0 => ⟨fun e1 => ⟨vp_in_nI (by omega) (by omega), hk _ _ _ _ _ _ _ _ _ _ _ _ _ _ _ _ _ _ _ _ _ _ _ _ _ (fin _ (by rw [if_neg e0, if_pos e1])) rfl⟩, fun e1 => ⟨fun e2 => ?_, fun e2 => ⟨fun e3 => ⟨vp_in_nI (by omega) (by omega), hk _ _ _ _ _ _ _ _ _ _ _ _ _ _ _ _ _ _ _ _ _ _ _ _ _ (fin _ (by rw [if_neg e0, if_neg e1, if_neg e2, if_pos e3])) rfl⟩, fun e3 => ⟨vp_in_nI (by omega) (by omega), ?_⟩⟩⟩⟩⟩
      · refine s7_boundOf hbd harr.2.2 (hy i hi).1 (hy i hi).2.1 (by omega) (by omega) ⟨hs.1, hs.2.1⟩ hlim.2.1 (by omega) hfb (fun r hr => hk _ _ _ _ _ _ _ _ _ _ _ _ _ _ _ _ _ _ _ _ _ _ _ _ _ (fin _ ?_) rfl)
        rw [if_neg e0, if_neg e1, if_pos e2]
        congr 1
        rw [← hr, Int64.ofInt_toInt]
      · have e4 : v2 = 4 := by
          subst e
          exact z_in4' hm e0 e1 e2 e3
        refine s7_ones (by omega) (hk _ _ _ _ _ _ _ _ _ _ _ _ _ _ _ _ _ _ _ _ _ _ _ _ _ (fin _ ?_) rfl)
        rw [if_neg e0, if_neg e1, if_neg e2, if_neg e3, if_pos e4, nI_l (Nat.lt_of_le_of_lt z_many_le (by omega))]
    · obtain ⟨q0, q1, q2, q3, q4⟩ := z_in4 h
      unfold wX7_set_30 wX7_set_37 wX7_set_38
      refine ⟨fun _ => ⟨fun z => absurd z (by decide), fun _ => h0 (fin _ ?_) _ _ _ _ _ _ _ _ _ _ _ _ _ _ _ _ _ _ _ _ _ _ _ _ _ rfl⟩, fun z => absurd rfl z⟩
      rw [if_neg q0, if_neg q1, if_neg q2, if_neg q3, if_neg q4]
  · unfold wX7_set_18 wX7_set_37 wX7_set_38
    exact ⟨fun _ => ⟨fun z => absurd z (by decide), fun _ => h0 (Or.inl ⟨h, rfl⟩) _ _ _ _ _ _ _ _ _ _ _ _ _ _ _ _ _ _ _ _ _ _ _ _ _ rfl⟩, fun z => absurd rfl z⟩
