/-! the reference: step, solve, undo -/
theorem s7_step {L : ZL} {H : List ZL} {d : ZC} {post : Int32 → Int32 → Int32 → Int32 → Int64 → Int32 → Int64 → Int64 → Int32 → Int32 → Int32 → Int32 → Int64 → Int64 → Int64 → Int32 → (Nat → Int32) → (Nat → Int32) → (Nat → Int32) → (Nat → Int64) → (Nat → Int64) → (Nat → Int64) → (Nat → Int64) → (Nat → Int64) → (Nat → Int64) → (Nat → Int64) → (Nat → Int64) → (Nat → Int32) → Prop} {t_raised t_undos t_many : Int32} {t_room : Int64} {t_breakAt : Int32} {t_breakWeight t_breakProfit : Int64} {t_from t_to t_made t_sets : Int32} {t_bestBits t_bestWeight t_bestProfit : Int64} {t_nexts : Int32} {t_all t_orderOf t_placeOf : Nat → Int32} {t_w t_p t_setBits t_setWeight t_setProfit t_nextProfit t_nextWeight t_nextBits : Nat → Int64} {t_undone : Nat → Int32} (hl : l_lim L) (hL : y_L L t_all) (hd : l_at L d) (hH : y_past H t_undos t_undone) (hall : ∀ M ∈ H, M.1 ≤ 60)
    (h1 : ∀ d', ¬ l_prv L d → l_stp L d = some d' → ∀ (r t_raised' t_undos' t_many' : Int32) (t_room' : Int64) (t_breakAt' : Int32) (t_breakWeight' t_breakProfit' : Int64) (t_from' t_to' t_made' t_sets' : Int32) (t_bestBits' t_bestWeight' t_bestProfit' : Int64) (t_nexts' : Int32) (t_all' t_orderOf' t_placeOf' : Nat → Int32) (t_w' t_p' t_setBits' t_setWeight' t_setProfit' t_nextProfit' t_nextWeight' t_nextBits' : Nat → Int64) (t_undone' : Nat → Int32), r = nI d'.2.2.2.1.length → t_raised' = 0 → y_L (l_K L (L.2.2.2.2.2 + 1)) t_all' → (∀ j, 124 ≤ j → t_all' j = t_all j) → y_past (z_keep H L) t_undos' t_undone' → post r t_raised' t_undos' t_many' t_room' t_breakAt' t_breakWeight' t_breakProfit' t_from' t_to' t_made' t_sets' t_bestBits' t_bestWeight' t_bestProfit' t_nexts' t_all' t_orderOf' t_placeOf' t_w' t_p' t_setBits' t_setWeight' t_setProfit' t_nextProfit' t_nextWeight' t_nextBits' t_undone')
    (h0 : ∀ (r t_raised' t_undos' t_many' : Int32) (t_room' : Int64) (t_breakAt' : Int32) (t_breakWeight' t_breakProfit' : Int64) (t_from' t_to' t_made' t_sets' : Int32) (t_bestBits' t_bestWeight' t_bestProfit' : Int64) (t_nexts' : Int32) (t_all' t_orderOf' t_placeOf' : Nat → Int32) (t_w' t_p' t_setBits' t_setWeight' t_setProfit' t_nextProfit' t_nextWeight' t_nextBits' : Nat → Int64) (t_undone' : Nat → Int32), (l_prv L d ∧ r = -1 ∨ (¬ l_prv L d ∧ l_stp L d = none) ∧ r = -2) → t_raised' = 0 → t_all' = t_all → t_undos' = t_undos → t_undone' = t_undone → post r t_raised' t_undos' t_many' t_room' t_breakAt' t_breakWeight' t_breakProfit' t_from' t_to' t_made' t_sets' t_bestBits' t_bestWeight' t_bestProfit' t_nexts' t_all' t_orderOf' t_placeOf' t_w' t_p' t_setBits' t_setWeight' t_setProfit' t_nextProfit' t_nextWeight' t_nextBits' t_undone') : wX7_step post t_raised t_undos t_many t_room t_breakAt t_breakWeight t_breakProfit t_from t_to t_made t_sets t_bestBits t_bestWeight t_bestProfit t_nexts t_all t_orderOf t_placeOf t_w t_p t_setBits t_setWeight t_setProfit t_nextProfit t_nextWeight t_nextBits t_undone := by
  have hlo := hL.ld hl
  obtain ⟨hok, hK⟩ := hd.ok hl
  have hcn := z_c60 hl.1
  have hlim := hok.1
  have hbd := z_lim_bd hl 60
  obtain ⟨a0, a1, a2, a3, a4⟩ := id hL
  obtain ⟨l1, l2, l3, l4, l5, l6, l7⟩ := id hl
  unfold wX7_step
  refine s7_lays hlo hd (fun nx orderOf placeOf tw tp sb sw sp np nw nb harr hy => ?_)
  unfold wX7_step_9
  refine s7_isProved (by omega) (by omega) (by omega) (Nat.le_trans hok.2.2.2.1 l7) (fun h => ?_) (fun h => ?_)
  · have hp : l_prv L d := by unfold l_prv z_proved; rw [decide_eq_true_iff]; exact h
    unfold wX7_step_13
    exact ⟨fun z => absurd z (by decide), fun _ => h0 _ _ _ _ _ _ _ _ _ _ _ _ _ _ _ _ _ _ _ _ _ _ _ _ _ _ _ _ (Or.inl ⟨hp, rfl⟩) rfl rfl rfl rfl⟩
  · have hp : ¬ l_prv L d := by unfold l_prv z_proved; rw [decide_eq_true_iff]; exact h
    unfold wX7_step_13
    refine ⟨fun _ => ?_, fun z => absurd rfl z⟩
    refine s7_goes hbd harr.2.2 hok hp a2 l7 (by omega) hy (fun hs nx np nw nb => ?_) (fun d' hs nx sw sb sp np nw nb hy2 => ?_)
    · unfold wX7_step_22
      exact ⟨fun _ => h0 _ _ _ _ _ _ _ _ _ _ _ _ _ _ _ _ _ _ _ _ _ _ _ _ _ _ _ _ (Or.inr ⟨⟨hp, hs⟩, rfl⟩) rfl rfl rfl rfl, fun z => absurd rfl z⟩
    · unfold wX7_step_22
      refine ⟨fun z => absurd z (by decide), fun _ => ?_⟩
      refine s7_keeps l1 hL hH hall (fun u' un' hH' => ?_)
      unfold wX7_step_32
      have hm := (z_step_some hs).2.2.2
      refine h1 d' hp hs _ _ _ _ _ _ _ _ _ _ _ _ _ _ _ _ _ _ _ _ _ _ _ _ _ _ _ _ rfl rfl ⟨?_, ?_, ?_, ?_, fun k hk => ?_⟩ (fun j hj => ?_) hH'
      · rw [show ((3 : Int32)).toNatClampNeg = 3 from rfl, pk_un (by omega)]; exact a0
      · rw [show ((3 : Int32)).toNatClampNeg = 3 from rfl, pk_un (by omega)]; exact a1
      · rw [show ((3 : Int32)).toNatClampNeg = 3 from rfl, pk_un (by omega)]; exact a2
      · rw [show ((3 : Int32)).toNatClampNeg = 3 from rfl, pk_us, hm, hK]
      · rw [show ((3 : Int32)).toNatClampNeg = 3 from rfl, pk_un (by omega), pk_un (by omega)]; exact a4 k hk
      · rw [show ((3 : Int32)).toNatClampNeg = 3 from rfl, pk_un (by omega)]
theorem s7_solve {L : ZL} {H : List ZL} {d : ZC} {post : Int32 → Int32 → Int32 → Int32 → Int64 → Int32 → Int64 → Int64 → Int32 → Int32 → Int32 → Int32 → Int64 → Int64 → Int64 → Int32 → (Nat → Int32) → (Nat → Int32) → (Nat → Int32) → (Nat → Int64) → (Nat → Int64) → (Nat → Int64) → (Nat → Int64) → (Nat → Int64) → (Nat → Int64) → (Nat → Int64) → (Nat → Int64) → (Nat → Int32) → Prop} {t_raised t_undos t_many : Int32} {t_room : Int64} {t_breakAt : Int32} {t_breakWeight t_breakProfit : Int64} {t_from t_to t_made t_sets : Int32} {t_bestBits t_bestWeight t_bestProfit : Int64} {t_nexts : Int32} {t_all t_orderOf t_placeOf : Nat → Int32} {t_w t_p t_setBits t_setWeight t_setProfit t_nextProfit t_nextWeight t_nextBits : Nat → Int64} {t_undone : Nat → Int32} (hl : l_lim L) (hL : y_L L t_all) (hd : l_at L d) (hH : y_past H t_undos t_undone) (hall : ∀ M ∈ H, M.1 ≤ 60)
    (h1 : (l_end L d).2.2.1 ≠ L.2.2.2.2.2 → ∀ (r t_raised' t_undos' t_many' : Int32) (t_room' : Int64) (t_breakAt' : Int32) (t_breakWeight' t_breakProfit' : Int64) (t_from' t_to' t_made' t_sets' : Int32) (t_bestBits' t_bestWeight' t_bestProfit' : Int64) (t_nexts' : Int32) (t_all' t_orderOf' t_placeOf' : Nat → Int32) (t_w' t_p' t_setBits' t_setWeight' t_setProfit' t_nextProfit' t_nextWeight' t_nextBits' : Nat → Int64) (t_undone' : Nat → Int32), r = nI ((l_end L d).2.2.1 - L.2.2.2.2.2) → t_raised' = 0 → y_L (l_K L (l_end L d).2.2.1) t_all' → (∀ j, 124 ≤ j → t_all' j = t_all j) → y_past (z_keep H L) t_undos' t_undone' → post r t_raised' t_undos' t_many' t_room' t_breakAt' t_breakWeight' t_breakProfit' t_from' t_to' t_made' t_sets' t_bestBits' t_bestWeight' t_bestProfit' t_nexts' t_all' t_orderOf' t_placeOf' t_w' t_p' t_setBits' t_setWeight' t_setProfit' t_nextProfit' t_nextWeight' t_nextBits' t_undone')
    (h0 : (l_end L d).2.2.1 = L.2.2.2.2.2 → ∀ (r t_raised' t_undos' t_many' : Int32) (t_room' : Int64) (t_breakAt' : Int32) (t_breakWeight' t_breakProfit' : Int64) (t_from' t_to' t_made' t_sets' : Int32) (t_bestBits' t_bestWeight' t_bestProfit' : Int64) (t_nexts' : Int32) (t_all' t_orderOf' t_placeOf' : Nat → Int32) (t_w' t_p' t_setBits' t_setWeight' t_setProfit' t_nextProfit' t_nextWeight' t_nextBits' : Nat → Int64) (t_undone' : Nat → Int32), r = -1 → t_raised' = 0 → t_all' = t_all → t_undos' = t_undos → t_undone' = t_undone → post r t_raised' t_undos' t_many' t_room' t_breakAt' t_breakWeight' t_breakProfit' t_from' t_to' t_made' t_sets' t_bestBits' t_bestWeight' t_bestProfit' t_nexts' t_all' t_orderOf' t_placeOf' t_w' t_p' t_setBits' t_setWeight' t_setProfit' t_nextProfit' t_nextWeight' t_nextBits' t_undone') : wX7_solve post t_raised t_undos t_many t_room t_breakAt t_breakWeight t_breakProfit t_from t_to t_made t_sets t_bestBits t_bestWeight t_bestProfit t_nexts t_all t_orderOf t_placeOf t_w t_p t_setBits t_setWeight t_setProfit t_nextProfit t_nextWeight t_nextBits t_undone := by
  have hlo := hL.ld hl
  obtain ⟨hok, hK⟩ := hd.ok hl
  have hcn := z_c60 hl.1
  have hbd := z_lim_bd hl 60
  obtain ⟨a0, a1, a2, a3, a4⟩ := id hL
  obtain ⟨l1, l2, l3, l4, l5, l6, l7⟩ := id hl
  have hoke : l_okc L (l_end L d) := z_end_ok hok
  have hlime := hoke.1
  have hlimd := hok.1
  obtain ⟨i, -, hi, hie⟩ := z_end_run (k := 60) hd
  have hie' : (l_end L d).2.2.1 + L.2.2.2.2.2 = d.2.2.1 + i := hie
  unfold wX7_solve
  refine s7_lays hlo hd (fun nx orderOf placeOf tw tp sb sw sp np nw nb harr hy => ?_)
  unfold wX7_solve_9
  refine s7_solves hbd harr.2.2 a2 l7 (by omega) hok hy (fun d2 r nx sw sb sp np nw nb he hok2 _ hy2 => ?_)
  have he' : d2 = l_end L d := he
  subst he'
  unfold wX7_solve_18
  rw [nI_eq (by omega) (by omega)]
  refine ⟨fun g => h0 (by rw [g, hK]) _ _ _ _ _ _ _ _ _ _ _ _ _ _ _ _ _ _ _ _ _ _ _ _ _ _ _ _ rfl rfl rfl rfl rfl, fun g => ?_⟩
  refine s7_keeps l1 hL hH hall (fun u' un' hH' => ?_)
  unfold wX7_solve_33
  refine h1 (by rw [← hK]; exact g) _ _ _ _ _ _ _ _ _ _ _ _ _ _ _ _ _ _ _ _ _ _ _ _ _ _ _ _ (by rw [← hK]; exact nI_sub (by omega)) rfl ⟨?_, ?_, ?_, ?_, fun k hk => ?_⟩ (fun j hj => ?_) hH'
  · rw [show ((3 : Int32)).toNatClampNeg = 3 from rfl, pk_un (by omega)]; exact a0
  · rw [show ((3 : Int32)).toNatClampNeg = 3 from rfl, pk_un (by omega)]; exact a1
  · rw [show ((3 : Int32)).toNatClampNeg = 3 from rfl, pk_un (by omega)]; exact a2
  · rw [show ((3 : Int32)).toNatClampNeg = 3 from rfl, pk_us]
  · rw [show ((3 : Int32)).toNatClampNeg = 3 from rfl, pk_un (by omega), pk_un (by omega)]; exact a4 k hk
  · rw [show ((3 : Int32)).toNatClampNeg = 3 from rfl, pk_un (by omega)]
theorem s7_undo {L' : ZL} {G : List ZL} {t_undone : Nat → Int32} {post : Int32 → Int32 → Int32 → (Nat → Int32) → Prop} {t_raised t_undos : Int32} {t_all : Nat → Int32} (hn : L'.1 ≤ 60) (hH : y_past (G ++ [L']) t_undos t_undone)
    (hk : ∀ (r t_raised' t_undos' : Int32) (t_all' : Nat → Int32), r = nI G.length → t_raised' = 0 → t_undos' = nI G.length → y_L L' t_all' → (∀ j, 124 ≤ j → t_all' j = t_all j) → post r t_raised' t_undos' t_all') : wX7_undo t_undone post t_raised t_undos t_all := by
  obtain ⟨rfl, h8, hr⟩ := hH
  have hlen : (G ++ [L']).length = G.length + 1 := by rw [List.length_append]; rfl
  have hlast := hr G.length (by rw [hlen]; omega)
  rw [List.getElem_append_right (Nat.le_refl _)] at hlast
  simp only [Nat.sub_self, List.getElem_cons_zero] at hlast
  rw [hlen] at h8 ⊢
  have main : ∀ (r v : Nat) (g : Nat → Int32), v + r = 124 → (∀ j, j < v → g j = t_undone (124 * G.length + j)) → (∀ j, v ≤ j → g j = t_all j) → wX7_undo_26 t_undone post (r + 1) 0 (nI G.length) g (nI v) := by
    intro r
    induction r with
    | zero =>
      intro v g hv h1 h2
      rw [wX7_undo_26]
      unfold wX7_undo_26_b
      rw [show ((124 : Int32)) = nI 124 from rfl, nI_leI (by omega) (by omega)]
      exact ⟨fun _ => hk _ _ _ _ rfl rfl rfl (hlast.congr hn (fun j hj => h1 j (by omega))) (fun j hj => h2 j (by omega)), fun h => by omega⟩
    | succ r ih =>
      intro v g hv h1 h2
      rw [wX7_undo_26]
      unfold wX7_undo_26_b
      rw [show ((124 : Int32)) = nI 124 from rfl, nI_mul, nI_add, nI_1, nI_leI (by omega) (by omega), nI_clamp (by omega), nI_clamp (by omega)]
      refine ⟨fun h => by omega, fun _ => ⟨vp_in_nI (by omega) (by omega), vp_in_nI (by omega) (by omega), ih (v + 1) _ (by omega) (fun j hj => ?_) (fun j hj => ?_)⟩⟩
      · by_cases e : j = v
        · subst e; rw [pk_us]
        · rw [pk_un e]; exact h1 j (by omega)
      · rw [pk_un (by omega)]; exact h2 j (by omega)
  unfold wX7_undo
  have e1 : nI (G.length + 1) - 1 = nI G.length := nI_sub (a := G.length + 1) (b := 1) (by omega)
  rw [e1]
  refine ⟨fun z => ?_, fun _ => ⟨125, main 124 0 t_all (by omega) (fun j hj => by omega) (fun j _ => rfl)⟩⟩
  rw [show (0 : Int32) = nI 0 from rfl, nI_eq (by omega) (by omega)] at z
  omega
theorem s7_undo0 {t_undone : Nat → Int32} {post : Int32 → Int32 → Int32 → (Nat → Int32) → Prop} {t_raised t_undos : Int32} {t_all : Nat → Int32} (hH : y_past [] t_undos t_undone) (hk : post (-1) 0 t_undos t_all) : wX7_undo t_undone post t_raised t_undos t_all := by
  obtain ⟨rfl, -, -⟩ := hH
  unfold wX7_undo
  exact ⟨fun _ => hk, fun z => absurd rfl z⟩
