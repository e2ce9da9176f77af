/-! the class: add, drop, step, solve, undo -/
theorem s1_sumOf {n : Nat} {f : Nat → Nat} {p1 : Nat → Int32} {post : Int64 → Prop} (hn : n ≤ 60) (hp : ∀ k, k < n → p1 k = nI (f k)) (hs : z_sm f n < 2 ^ 31) (hk : post (lN (z_sm f n))) : wX1_sumOf (nI n) p1 60 post := by
  have main : ∀ (r k : Nat), k + r = n → wX1_sumOf_5 (nI n) p1 60 post (r + 1) (lN (z_sm f k)) (nI k) := by
    intro r
    induction r with
    | zero =>
      intro k hkr
      rw [wX1_sumOf_5]
      unfold wX1_sumOf_5_b
      have e : k = n := by omega
      subst e
      exact ⟨fun _ => hk, fun h => absurd (Int32.le_refl _) h⟩
    | succ r ih =>
      intro k hkr
      have h1 : z_sm f (k + 1) ≤ z_sm f n := z_sm_le (by omega)
      simp only [z_sm] at h1
      rw [wX1_sumOf_5]
      unfold wX1_sumOf_5_b
      rw [nI_leI (by omega) (by omega), nI_clamp (by omega), hp k (by omega), nI_l (by omega), lN_add, nI_1]
      exact ⟨fun h => by omega, fun _ => ⟨vp_in_nI (by omega) (by omega), ih (k + 1) (by omega)⟩⟩
  unfold wX1_sumOf
  exact ⟨n + 1, main n 0 (by omega)⟩
theorem s1_has {n : Nat} {v : Int32} {post : Int32 → Prop} (hn : n ≤ 60) (h1 : ∀ e, v = nI e → e < n → post 1) (h0 : (¬ ∃ e, v = nI e ∧ e < n) → post 0) : wX1_has (nI n) post v := by
  have key : (¬ v < 0 ∧ ¬ nI n ≤ v) → post 1 := fun ⟨a, b⟩ => by
    rw [Int32.lt_iff_toInt_lt] at a
    rw [Int32.le_iff_toInt_le, nI_toInt (by omega)] at b
    have a' : ¬ v.toInt < 0 := a
    refine h1 v.toInt.toNat ?_ (by omega)
    rw [← Int32.toInt_inj, nI_toInt (by omega)]
    omega
  have keyN : ¬ (¬ v < 0 ∧ ¬ nI n ≤ v) → post 0 := fun g => h0 (fun ⟨e, he, hl⟩ => g (by
    subst he
    exact ⟨nI_nlt (b := 0) (Nat.zero_le _) (by omega), by rw [nI_leI (by omega) (by omega)]; omega⟩))
  unfold wX1_has
  exact ⟨fun g => keyN (fun z => z.1 g), fun g => ⟨fun y => keyN (fun z => z.2 y), fun y => key ⟨g, y⟩⟩⟩
def z_add (L : ZL) (v1 v2 : Int32) (L' : ZL) : Prop := ∃ a b, v1 = nI a ∧ v2 = nI b ∧ (1 ≤ a ∧ a ≤ 999999999) ∧ (1 ≤ b ∧ b ≤ 999999999) ∧ L.1 < 60 ∧ z_sm L.2.1 L.1 + a ≤ 2147483647 ∧ z_sm L.2.2.1 L.1 + b ≤ 2147483647 ∧ L' = (L.1 + 1, z_up L.2.1 L.1 a, z_up L.2.2.1 L.1 b, L.2.2.2.1, L.2.2.2.2.1, 0)
theorem z_sm_new {f : Nat → Nat} {n a : Nat} : z_sm (z_up f n a) (n + 1) = z_sm f n + a := by
  simp only [z_sm]
  rw [z_sm_up_ge (Nat.le_refl _), z_up_s]
theorem z_add_lim {L L' : ZL} {v1 v2 : Int32} (hl : l_lim L) (h : z_add L v1 v2 L') : l_lim L' := by
  obtain ⟨l1, l2, l3, l4, l5, l6, l7⟩ := hl
  obtain ⟨a, b, -, -, ha, hb, hn, h1, h2, rfl⟩ := h
  refine ⟨hn, fun i hi => ?_, ?_, ?_, l5, l6, l7⟩
  · show 1 ≤ z_up L.2.1 L.1 a i ∧ 1 ≤ z_up L.2.2.1 L.1 b i
    by_cases e : i = L.1
    · subst e; rw [z_up_s, z_up_s]; exact ⟨ha.1, hb.1⟩
    · rw [z_up_n e, z_up_n e]
      have hi' : i < L.1 + 1 := hi
      exact l2 i (by omega)
  · show z_sm (z_up L.2.1 L.1 a) (L.1 + 1) < _
    rw [z_sm_new]; omega
  · show z_sm (z_up L.2.2.1 L.1 b) (L.1 + 1) < _
    rw [z_sm_new]; omega
theorem s1_canTake {L : ZL} {v1 v2 : Int32} {ws ps : Nat → Int32} {post : Int32 → Prop} (hl : l_lim L) (hA : ∀ k, k < L.1 → ws k = nI (L.2.1 k) ∧ ps k = nI (L.2.2.1 k))
    (h1 : ∀ L', z_add L v1 v2 L' → post 1) (h0 : (¬ ∃ L', z_add L v1 v2 L') → post 0) : wX1_canTake (nI L.1) ws ps post v1 v2 := by
  obtain ⟨l1, l2, l3, l4, l5, l6, l7⟩ := hl
  unfold wX1_canTake
  rw [show ((60 : Int32)) = nI 60 from rfl, nI_leI (by omega) (by omega)]
  refine ⟨fun h => h0 (fun ⟨L', a, b, _, _, _, _, hn, _⟩ => by omega), fun h => ?_⟩
  refine s6_canBeItemsNumber (fun a ea ha1 ha2 => ?_) (fun g => ?_)
  · unfold wX1_canTake_14
    refine ⟨fun z => absurd z (by decide), fun _ => ?_⟩
    refine s6_canBeItemsNumber (fun b eb hb1 hb2 => ?_) (fun g => ?_)
    · unfold wX1_canTake_22
      refine ⟨fun z => absurd z (by decide), fun _ => ?_⟩
      subst ea
      subst eb
      unfold wX1_allWeights
      refine s1_sumOf l1 (fun k hk => (hA k hk).1) l3 ?_
      dsimp only
      unfold wX1_canTake_29
      rw [nI_l (by omega), lN_add, show ((2147483647 : Int64)) = lN 2147483647 from rfl, pk_lLT (by omega) (by omega)]
      have un : ∀ L', z_add L (nI a) (nI b) L' → z_sm L.2.1 L.1 + a ≤ 2147483647 ∧ z_sm L.2.2.1 L.1 + b ≤ 2147483647 := fun L' ⟨a', b', e1, e2, q1, q2, _, q3, q4, _⟩ => by
        rw [nI_eq (by omega) (by omega)] at e1 e2
        subst e1
        subst e2
        exact ⟨q3, q4⟩
      refine ⟨fun y => h0 (fun ⟨L', z⟩ => by have := (un L' z).1; omega), fun y => ?_⟩
      unfold wX1_allProfits
      refine s1_sumOf l1 (fun k hk => (hA k hk).2) l4 ?_
      dsimp only
      unfold wX1_canTake_43
      rw [nI_l (by omega), lN_add, show ((2147483647 : Int64)) = lN 2147483647 from rfl, pk_lLT (by omega) (by omega)]
      refine ⟨fun x => h0 (fun ⟨L', z⟩ => by have := (un L' z).2; omega), fun x => h1 _ ⟨a, b, rfl, rfl, ⟨ha1, ha2⟩, ⟨hb1, hb2⟩, by omega, by omega, by omega, rfl⟩⟩
    · unfold wX1_canTake_22
      exact ⟨fun _ => h0 (fun ⟨L', a', b', _, e2, _, q, _⟩ => g ⟨b', e2, q⟩), fun z => absurd rfl z⟩
  · unfold wX1_canTake_14
    exact ⟨fun _ => h0 (fun ⟨L', a', b', e1, _, q, _⟩ => g ⟨a', e1, q⟩), fun z => absurd rfl z⟩
theorem s6_add {L : ZL} {H : List ZL} {d : ZC} {cap : Nat} {t_now_load_room t_now_load_most : Int32} {post : Int32 → Int32 → Int32 → Int32 → Int32 → (Nat → Int32) → (Nat → Int32) → (Nat → Int32) → (Nat → Int32) → Int32 → Int32 → Int32 → Int32 → Int32 → Int32 → Int64 → Int32 → Int32 → Int32 → Int32 → Int32 → Int32 → (Nat → Int32) → (Nat → Int32) → (Nat → Nat → Int32) → (Nat → Nat → Int32) → (Nat → Int32) → (Nat → Int32) → (Nat → Int32) → (Nat → Int32) → (Nat → Int32) → (Nat → Int32) → (Nat → Int64) → Prop} {t_acts t_frontState t_now_load_items t_now_load_steps : Int32} {t_past_items t_past_room t_past_most t_past_steps : Nat → Int32} {t_core_most t_core_from t_core_to t_core_steps t_core_bestWeight t_core_bestProfit : Int32} {t_core_bestBits : Int64} {t_core_ranked_items t_core_ranked_room t_core_ranked_breakPlace t_core_ranked_breakWeight t_core_ranked_breakProfit t_core_sets_size : Int32} {t_now_load_weights t_now_load_profits : Nat → Int32} {t_past_weights t_past_profits : Nat → Nat → Int32} {t_core_ranked_itemAt t_core_ranked_placeOf t_core_ranked_weights t_core_ranked_profits t_core_sets_weights t_core_sets_profits : Nat → Int32} {t_core_sets_bits : Nat → Int64} {v1 v2 : Int32} (hl : l_lim L) (hx : x_L L t_now_load_items t_now_load_room t_now_load_most t_now_load_steps t_now_load_weights t_now_load_profits) (hH : x_past H t_acts t_past_items t_past_room t_past_most t_past_steps t_past_weights t_past_profits) (hd : l_core L d t_core_most t_core_from t_core_to t_core_steps t_core_bestWeight t_core_bestProfit t_core_bestBits t_core_ranked_items t_core_ranked_room t_core_ranked_breakPlace t_core_ranked_breakWeight t_core_ranked_breakProfit t_core_sets_size t_core_ranked_itemAt t_core_ranked_placeOf t_core_ranked_weights t_core_ranked_profits t_core_sets_weights t_core_sets_profits t_core_sets_bits) (hc : z_pw cap)
    (h1 : ∀ L', z_add L v1 v2 L' → ∀ (r t_acts' t_frontState' t_now_load_items' t_now_load_steps' : Int32) (t_past_items' t_past_room' t_past_most' t_past_steps' : Nat → Int32) (t_core_most' t_core_from' t_core_to' t_core_steps' t_core_bestWeight' t_core_bestProfit' : Int32) (t_core_bestBits' : Int64) (t_core_ranked_items' t_core_ranked_room' t_core_ranked_breakPlace' t_core_ranked_breakWeight' t_core_ranked_breakProfit' t_core_sets_size' : Int32) (t_now_load_weights' t_now_load_profits' : Nat → Int32) (t_past_weights' t_past_profits' : Nat → Nat → Int32) (t_core_ranked_itemAt' t_core_ranked_placeOf' t_core_ranked_weights' t_core_ranked_profits' t_core_sets_weights' t_core_sets_profits' : Nat → Int32) (t_core_sets_bits' : Nat → Int64), r = nI L.1 → x_L L' t_now_load_items' t_now_load_room t_now_load_most t_now_load_steps' t_now_load_weights' t_now_load_profits' → x_past (z_keep H L) t_acts' t_past_items' t_past_room' t_past_most' t_past_steps' t_past_weights' t_past_profits' → l_core L' (c_beg L') t_core_most' t_core_from' t_core_to' t_core_steps' t_core_bestWeight' t_core_bestProfit' t_core_bestBits' t_core_ranked_items' t_core_ranked_room' t_core_ranked_breakPlace' t_core_ranked_breakWeight' t_core_ranked_breakProfit' t_core_sets_size' t_core_ranked_itemAt' t_core_ranked_placeOf' t_core_ranked_weights' t_core_ranked_profits' t_core_sets_weights' t_core_sets_profits' t_core_sets_bits' → t_frontState' = 0 → post r t_acts' t_frontState' t_now_load_items' t_now_load_steps' t_past_items' t_past_room' t_past_most' t_past_steps' t_core_most' t_core_from' t_core_to' t_core_steps' t_core_bestWeight' t_core_bestProfit' t_core_bestBits' t_core_ranked_items' t_core_ranked_room' t_core_ranked_breakPlace' t_core_ranked_breakWeight' t_core_ranked_breakProfit' t_core_sets_size' t_now_load_weights' t_now_load_profits' t_past_weights' t_past_profits' t_core_ranked_itemAt' t_core_ranked_placeOf' t_core_ranked_weights' t_core_ranked_profits' t_core_sets_weights' t_core_sets_profits' t_core_sets_bits')
    (h0 : (¬ ∃ L', z_add L v1 v2 L') → post (-1) t_acts t_frontState t_now_load_items t_now_load_steps t_past_items t_past_room t_past_most t_past_steps t_core_most t_core_from t_core_to t_core_steps t_core_bestWeight t_core_bestProfit t_core_bestBits t_core_ranked_items t_core_ranked_room t_core_ranked_breakPlace t_core_ranked_breakWeight t_core_ranked_breakProfit t_core_sets_size t_now_load_weights t_now_load_profits t_past_weights t_past_profits t_core_ranked_itemAt t_core_ranked_placeOf t_core_ranked_weights t_core_ranked_profits t_core_sets_weights t_core_sets_profits t_core_sets_bits) :
    wX6_add t_now_load_room t_now_load_most cap cap cap post t_acts t_frontState t_now_load_items t_now_load_steps t_past_items t_past_room t_past_most t_past_steps t_core_most t_core_from t_core_to t_core_steps t_core_bestWeight t_core_bestProfit t_core_bestBits t_core_ranked_items t_core_ranked_room t_core_ranked_breakPlace t_core_ranked_breakWeight t_core_ranked_breakProfit t_core_sets_size t_now_load_weights t_now_load_profits t_past_weights t_past_profits t_core_ranked_itemAt t_core_ranked_placeOf t_core_ranked_weights t_core_ranked_profits t_core_sets_weights t_core_sets_profits t_core_sets_bits v1 v2 := by
  have hx' := hx
  obtain ⟨rfl, rfl, rfl, rfl, hA⟩ := hx
  unfold wX6_add
  refine s1_canTake hl hA (fun L' hz => ?_) (fun h => ?_)
  · have hl' := z_add_lim hl hz
    have hz' := hz
    obtain ⟨a, b, rfl, rfl, ha, hb, hn, hw, hp, rfl⟩ := hz
    unfold wX6_add_12
    refine ⟨fun z => absurd z (by decide), fun _ => ?_⟩
    refine s6_remember hl.1 hx' hH (fun acts' pi pr pm pst pw pp hH' => ?_)
    unfold wX6_add_21 wX1_put
    rw [show ((60 : Int32)) = nI 60 from rfl, nI_leI (by omega) (by omega), nI_clamp (by omega), nI_1]
    refine ⟨fun z => by omega, fun _ => ⟨vp_in_nI (by omega) (by omega), vp_in_nI (by omega) (by omega), ?_⟩⟩
    unfold wX6_add_33
    have hA' : ∀ k, k < L.1 + 1 → upd t_now_load_weights L.1 (nI a) k = nI (z_up L.2.1 L.1 a k) ∧ upd t_now_load_profits L.1 (nI b) k = nI (z_up L.2.2.1 L.1 b k) := fun k hk => by
      by_cases e : k = L.1
      · subst e; rw [pk_us, pk_us, z_up_s, z_up_s]; exact ⟨rfl, rfl⟩
      · rw [pk_un e, pk_un e, z_up_n e, z_up_n e]; exact hA k (by omega)
    refine s6_beginAgain (L := (L.1 + 1, z_up L.2.1 L.1 a, z_up L.2.2.1 L.1 b, L.2.2.2.1, L.2.2.2.2.1, L.2.2.2.2.2)) hl' ⟨rfl, rfl, rfl, rfl, hA'⟩ hc ?_
    intro t_frontState' t_now_load_steps' a1 a2 a3 a4 a5 a6 a7 a8 a9 a10 a11 a12 a13 a14 a15 a16 a17 a18 a19 a20 ef es hcore
    unfold wX6_add_37
    exact h1 _ hz' _ _ _ _ _ _ _ _ _ _ _ _ _ _ _ _ _ _ _ _ _ _ _ _ _ _ _ _ _ _ _ _ _ (nI_sub (b := 1) (by omega)) ⟨rfl, rfl, rfl, es, hA'⟩ hH' hcore ef
  · unfold wX6_add_12
    exact ⟨fun _ => h0 h, fun z => absurd rfl z⟩
theorem s1_takeOut {n e : Nat} {ws ps : Nat → Int32} {post : Int32 → (Nat → Int32) → (Nat → Int32) → Prop} (hn : n ≤ 60) (he : e < n)
    (hk : ∀ ws' ps' : Nat → Int32, (∀ k, k < n - 1 → ws' k = ws (z_u e k) ∧ ps' k = ps (z_u e k)) → post (nI (n - 1)) ws' ps') : wX1_takeOut post (nI n) ws ps (nI e) := by
  unfold wX1_takeOut
  refine s1_has hn (fun e' h1 h2 => ?_) (fun h => absurd ⟨e, rfl, he⟩ h)
  unfold wX1_takeOut_5
  rw [nI_1, nI_sub (by omega), show (1 : Int32) = nI 1 from rfl, nI_sub (by omega), nI_sub (by omega), nI_clamp (by omega), nI_clamp (by omega), nI_clamp (by omega)]
  refine ⟨fun z => absurd z (by decide), fun _ => ?_⟩
  refine ⟨nI_nlt (b := 0) (Nat.zero_le _) (by omega), nI_nlt (b := 0) (Nat.zero_le _) (by omega), nI_nlt (b := 0) (Nat.zero_le _) (by omega), by omega, by omega, nI_nlt (b := 0) (Nat.zero_le _) (by omega), nI_nlt (b := 0) (Nat.zero_le _) (by omega), nI_nlt (b := 0) (Nat.zero_le _) (by omega), by omega, by omega, hk _ _ (fun k hk => ?_)⟩
  have key : ∀ f : Nat → Int32, va_cpy f f (e + 1) e (n - e - 1) k = f (z_u e k) := fun f => by
    unfold va_cpy z_u
    by_cases h : k < e
    · rw [if_neg (by omega), if_pos h]
    · rw [if_pos (by omega), if_neg h]
      congr 1
      omega
  exact ⟨key ws, key ps⟩
def z_drop (L : ZL) (v : Int32) (L' : ZL) : Prop := ∃ e, v = nI e ∧ e < L.1 ∧ L' = (L.1 - 1, fun i => L.2.1 (z_u e i), fun i => L.2.2.1 (z_u e i), L.2.2.2.1, L.2.2.2.2.1, 0)
theorem z_drop_lim {L L' : ZL} {v : Int32} (hl : l_lim L) (h : z_drop L v L') : l_lim L' := by
  obtain ⟨l1, l2, l3, l4, l5, l6, l7⟩ := hl
  obtain ⟨e, -, he, rfl⟩ := h
  have hc : z_c e L.1 = L.1 - 1 := by unfold z_c; rw [if_pos he]
  refine ⟨by show L.1 - 1 ≤ 60; omega, fun i hi => ?_, ?_, ?_, l5, l6, l7⟩
  · have hi' : i < L.1 - 1 := hi
    have := z_u_lt (e := e) (n := L.1) (i := i) (by omega)
    exact l2 _ this
  · show z_sm (fun i => L.2.1 (z_u e i)) (L.1 - 1) < _
    rw [← hc]; exact Nat.lt_of_le_of_lt z_sm_skip l3
  · show z_sm (fun i => L.2.2.1 (z_u e i)) (L.1 - 1) < _
    rw [← hc]; exact Nat.lt_of_le_of_lt z_sm_skip l4
theorem s6_drop {L : ZL} {H : List ZL} {d : ZC} {cap : Nat} {t_now_load_room t_now_load_most : Int32} {post : Int32 → Int32 → Int32 → Int32 → Int32 → (Nat → Int32) → (Nat → Int32) → (Nat → Int32) → (Nat → Int32) → Int32 → Int32 → Int32 → Int32 → Int32 → Int32 → Int64 → Int32 → Int32 → Int32 → Int32 → Int32 → Int32 → (Nat → Int32) → (Nat → Nat → Int32) → (Nat → Int32) → (Nat → Nat → Int32) → (Nat → Int32) → (Nat → Int32) → (Nat → Int32) → (Nat → Int32) → (Nat → Int32) → (Nat → Int32) → (Nat → Int64) → Prop} {t_acts t_frontState t_now_load_items t_now_load_steps : Int32} {t_past_items t_past_room t_past_most t_past_steps : Nat → Int32} {t_core_most t_core_from t_core_to t_core_steps t_core_bestWeight t_core_bestProfit : Int32} {t_core_bestBits : Int64} {t_core_ranked_items t_core_ranked_room t_core_ranked_breakPlace t_core_ranked_breakWeight t_core_ranked_breakProfit t_core_sets_size : Int32} {t_now_load_weights : Nat → Int32} {t_past_weights : Nat → Nat → Int32} {t_now_load_profits : Nat → Int32} {t_past_profits : Nat → Nat → Int32} {t_core_ranked_itemAt t_core_ranked_placeOf t_core_ranked_weights t_core_ranked_profits t_core_sets_weights t_core_sets_profits : Nat → Int32} {t_core_sets_bits : Nat → Int64} {v1 : Int32} (hl : l_lim L) (hx : x_L L t_now_load_items t_now_load_room t_now_load_most t_now_load_steps t_now_load_weights t_now_load_profits) (hH : x_past H t_acts t_past_items t_past_room t_past_most t_past_steps t_past_weights t_past_profits) (hd : l_core L d t_core_most t_core_from t_core_to t_core_steps t_core_bestWeight t_core_bestProfit t_core_bestBits t_core_ranked_items t_core_ranked_room t_core_ranked_breakPlace t_core_ranked_breakWeight t_core_ranked_breakProfit t_core_sets_size t_core_ranked_itemAt t_core_ranked_placeOf t_core_ranked_weights t_core_ranked_profits t_core_sets_weights t_core_sets_profits t_core_sets_bits) (hc : z_pw cap)
    (h1 : ∀ L', z_drop L v1 L' → ∀ (r t_acts' t_frontState' t_now_load_items' t_now_load_steps' : Int32) (t_past_items' t_past_room' t_past_most' t_past_steps' : Nat → Int32) (t_core_most' t_core_from' t_core_to' t_core_steps' t_core_bestWeight' t_core_bestProfit' : Int32) (t_core_bestBits' : Int64) (t_core_ranked_items' t_core_ranked_room' t_core_ranked_breakPlace' t_core_ranked_breakWeight' t_core_ranked_breakProfit' t_core_sets_size' : Int32) (t_now_load_weights' : Nat → Int32) (t_past_weights' : Nat → Nat → Int32) (t_now_load_profits' : Nat → Int32) (t_past_profits' : Nat → Nat → Int32) (t_core_ranked_itemAt' t_core_ranked_placeOf' t_core_ranked_weights' t_core_ranked_profits' t_core_sets_weights' t_core_sets_profits' : Nat → Int32) (t_core_sets_bits' : Nat → Int64), r = nI L'.1 → x_L L' t_now_load_items' t_now_load_room t_now_load_most t_now_load_steps' t_now_load_weights' t_now_load_profits' → x_past (z_keep H L) t_acts' t_past_items' t_past_room' t_past_most' t_past_steps' t_past_weights' t_past_profits' → l_core L' (c_beg L') t_core_most' t_core_from' t_core_to' t_core_steps' t_core_bestWeight' t_core_bestProfit' t_core_bestBits' t_core_ranked_items' t_core_ranked_room' t_core_ranked_breakPlace' t_core_ranked_breakWeight' t_core_ranked_breakProfit' t_core_sets_size' t_core_ranked_itemAt' t_core_ranked_placeOf' t_core_ranked_weights' t_core_ranked_profits' t_core_sets_weights' t_core_sets_profits' t_core_sets_bits' → t_frontState' = 0 → post r t_acts' t_frontState' t_now_load_items' t_now_load_steps' t_past_items' t_past_room' t_past_most' t_past_steps' t_core_most' t_core_from' t_core_to' t_core_steps' t_core_bestWeight' t_core_bestProfit' t_core_bestBits' t_core_ranked_items' t_core_ranked_room' t_core_ranked_breakPlace' t_core_ranked_breakWeight' t_core_ranked_breakProfit' t_core_sets_size' t_now_load_weights' t_past_weights' t_now_load_profits' t_past_profits' t_core_ranked_itemAt' t_core_ranked_placeOf' t_core_ranked_weights' t_core_ranked_profits' t_core_sets_weights' t_core_sets_profits' t_core_sets_bits')
    (h0 : (¬ ∃ L', z_drop L v1 L') → post (-1) t_acts t_frontState t_now_load_items t_now_load_steps t_past_items t_past_room t_past_most t_past_steps t_core_most t_core_from t_core_to t_core_steps t_core_bestWeight t_core_bestProfit t_core_bestBits t_core_ranked_items t_core_ranked_room t_core_ranked_breakPlace t_core_ranked_breakWeight t_core_ranked_breakProfit t_core_sets_size t_now_load_weights t_past_weights t_now_load_profits t_past_profits t_core_ranked_itemAt t_core_ranked_placeOf t_core_ranked_weights t_core_ranked_profits t_core_sets_weights t_core_sets_profits t_core_sets_bits) :
    wX6_drop t_now_load_room t_now_load_most cap cap cap post t_acts t_frontState t_now_load_items t_now_load_steps t_past_items t_past_room t_past_most t_past_steps t_core_most t_core_from t_core_to t_core_steps t_core_bestWeight t_core_bestProfit t_core_bestBits t_core_ranked_items t_core_ranked_room t_core_ranked_breakPlace t_core_ranked_breakWeight t_core_ranked_breakProfit t_core_sets_size t_now_load_weights t_past_weights t_now_load_profits t_past_profits t_core_ranked_itemAt t_core_ranked_placeOf t_core_ranked_weights t_core_ranked_profits t_core_sets_weights t_core_sets_profits t_core_sets_bits v1 := by
  have hx' := hx
  obtain ⟨rfl, rfl, rfl, rfl, hA⟩ := hx
  unfold wX6_drop
  refine s1_has hl.1 (fun e he hlt => ?_) (fun h => ?_)
  · subst he
    have hz : z_drop L (nI e) _ := ⟨e, rfl, hlt, rfl⟩
    have hl' := z_drop_lim hl hz
    unfold wX6_drop_11
    refine ⟨fun z => absurd z (by decide), fun _ => ?_⟩
    refine s6_remember hl.1 hx' hH (fun acts' pi pr pm pst pw pp hH' => ?_)
    unfold wX6_drop_20
    refine s1_takeOut hl.1 hlt (fun ws' ps' hcp => ?_)
    unfold wX6_drop_31
    have hA' : ∀ k, k < L.1 - 1 → ws' k = nI (L.2.1 (z_u e k)) ∧ ps' k = nI (L.2.2.1 (z_u e k)) := fun k hk => by
      have hc' : z_c e L.1 = L.1 - 1 := by unfold z_c; rw [if_pos hlt]
      rw [(hcp k hk).1, (hcp k hk).2]
      exact hA _ (z_u_lt (by omega))
    refine s6_beginAgain (L := (L.1 - 1, fun i => L.2.1 (z_u e i), fun i => L.2.2.1 (z_u e i), L.2.2.2.1, L.2.2.2.2.1, L.2.2.2.2.2)) hl' ⟨rfl, rfl, rfl, rfl, hA'⟩ hc ?_
    intro t_frontState' t_now_load_steps' a1 a2 a3 a4 a5 a6 a7 a8 a9 a10 a11 a12 a13 a14 a15 a16 a17 a18 a19 a20 ef es hcore
    unfold wX6_drop_35
    exact h1 _ hz _ _ _ _ _ _ _ _ _ _ _ _ _ _ _ _ _ _ _ _ _ _ _ _ _ _ _ _ _ _ _ _ _ rfl ⟨rfl, rfl, rfl, es, hA'⟩ hH' hcore ef
  · unfold wX6_drop_11
    exact ⟨fun _ => h0 (fun ⟨L', e, he, hlt, _⟩ => h ⟨e, he, hlt⟩), fun z => absurd rfl z⟩
