/-- KnapsackCore$Core.bestHas(I)Z -/
def wX0_bestHas (t_bestBits : Int64) (t_ranked_items : Int32) (post : Int32 → Prop) (v1 : Int32) : Prop :=
  (v1 < (0 : Int32) → post (0 : Int32)) ∧ (¬ v1 < (0 : Int32) → (t_ranked_items ≤ v1 → post (0 : Int32)) ∧ (¬ t_ranked_items ≤ v1 → ((((t_bestBits).toUInt64 >>> ((v1).toInt64.toUInt64 &&& Int64.toUInt64 63)).toInt64 &&& (1 : Int64)) = (1 : Int64) → post (1 : Int32)) ∧ (¬ (((t_bestBits).toUInt64 >>> ((v1).toInt64.toUInt64 &&& Int64.toUInt64 63)).toInt64 &&& (1 : Int64)) = (1 : Int64) → post (0 : Int32))))
theorem kX0_bestHas_0 : Cond.fieldLink RX0 12 "KnapsackCore$Core" "ranked" "LKnapsackCore$Ranked;" ∈ wsX0_bestHas := (List.mem_cons_of_mem _ (List.mem_append_left _ (List.mem_append_left _ (List.mem_of_getElem? (i := 0) rfl))))
theorem kX0_bestHas_1 : Cond.fieldLink RX0 74 "KnapsackCore$Ranked" "items" "I" ∈ wsX0_bestHas := (List.mem_cons_of_mem _ (List.mem_append_left _ (List.mem_append_left _ (List.mem_of_getElem? (i := 1) rfl))))
theorem kX0_bestHas_2 : Cond.fieldLink RX0 63 "KnapsackCore$Core" "bestBits" "J" ∈ wsX0_bestHas := (List.mem_cons_of_mem _ (List.mem_append_left _ (List.mem_append_left _ (List.mem_of_getElem? (i := 2) rfl))))
theorem iX0_bestHas_X0 : ∀ w ∈ u_ws RX0 TX0 10, w ∈ wsX0_bestHas := fun w h => (List.mem_cons_of_mem _ (List.mem_append_left _ (List.mem_append_right _ h)))
theorem iX0_bestHas_X2 : ∀ w ∈ u_ws RX2 TX2 9, w ∈ wsX0_bestHas := fun w h => (List.mem_cons_of_mem _ (List.mem_append_right _ h))
set_option maxHeartbeats 4000000 in
set_option maxRecDepth 100000 in
theorem mtX0_bestHas (l : Launch) (ad : (Nat → Nat) × (Nat → Nat)) (dC : Nat → ClassId) (dI : Nat → Nat → Nat) (cy : Nat → ClassId) (a_t a_t_ranked a_t_sets a_t_spare a_t_ranked_itemAt a_t_ranked_placeOf a_t_ranked_weights a_t_ranked_profits : Nat) (sz : Nat) (t_most t_from t_to t_steps t_bestWeight t_bestProfit : Int32) (t_bestBits : Int64) (t_ranked_items t_ranked_room t_ranked_breakPlace t_ranked_breakWeight t_ranked_breakProfit v1 : Int32) {post : Int32 → Prop} (h : wX0_bestHas t_bestBits t_ranked_items post v1) : xMi l yX0_bestHas wsX0_bestHas ({ frames := 0, cells := 0, slots := 0, locals := 0 } : Room) ad (dC, dI) vwCl (xT cy) [.ref a_t, .int v1] [(a_t, .inr (0, [.ref a_t_ranked, .ref a_t_sets, .ref a_t_spare, .int t_most, .int t_from, .int t_to, .int t_steps, .int t_bestWeight, .int t_bestProfit, .long t_bestBits])), (a_t_ranked, .inr (2, [.ref a_t_ranked_itemAt, .ref a_t_ranked_placeOf, .ref a_t_ranked_weights, .ref a_t_ranked_profits, .int t_ranked_items, .int t_ranked_room, .int t_ranked_breakPlace, .int t_ranked_breakWeight, .int t_ranked_breakProfit]))] sz (fun (r : Int32) (_ : Unit) => post r) (fun (_ : Unit) w => w = [(a_t, .inr (0, [.ref a_t_ranked, .ref a_t_sets, .ref a_t_spare, .int t_most, .int t_from, .int t_to, .int t_steps, .int t_bestWeight, .int t_bestProfit, .long t_bestBits])), (a_t_ranked, .inr (2, [.ref a_t_ranked_itemAt, .ref a_t_ranked_placeOf, .ref a_t_ranked_weights, .ref a_t_ranked_profits, .int t_ranked_items, .int t_ranked_room, .int t_ranked_breakPlace, .int t_ranked_breakWeight, .int t_ranked_breakProfit]))]) 0 0 := by
  unfold xMi
  refine Met.ofW (cc := cX0_bestHas) (maxL := 2) (ret := (some .boolean)) (by decide +kernel) rfl ?_
  intro p e s m args below meth c s₁ B hml hv
  obtain ⟨rfl, hsz, hP, hK, hD0, hE⟩ := hv
  have hx := B.exec
  have hb := B.bytes
  have hr := B.returns
  have hts := atoms_spec (ws := wsX0_bestHas) B.pre
  have hown : s.vm.findClass RX0 = some m.cls := findClass_of_methodNamed B.named
  have hlocks := B.notSynchronized
  subst hsz
  have hD := hD0.self (sz := s.heap.size)
  generalize hAe : va_A [(a_t, .inr (0, [.ref a_t_ranked, .ref a_t_sets, .ref a_t_spare, .int t_most, .int t_from, .int t_to, .int t_steps, .int t_bestWeight, .int t_bestProfit, .long t_bestBits])), (a_t_ranked, .inr (2, [.ref a_t_ranked_itemAt, .ref a_t_ranked_placeOf, .ref a_t_ranked_weights, .ref a_t_ranked_profits, .int t_ranked_items, .int t_ranked_room, .int t_ranked_breakPlace, .int t_ranked_breakWeight, .int t_ranked_breakProfit]))] s.heap.size = A at hD hE ⊢
  have hA : ∀ q : Nat, s.heap.size ≤ q → A q := fun q h => by rw [← hAe]; exact Or.inr h
  have hS : va_S A s.heap s.heap [] := va_S.rf
  have hl := lv_entry ([.ref a_t, .int v1]) (n := 2) (Nat.le_of_ble_eq_true rfl)
  rw [lg_entry_eq]
  generalize (lg_sl ([.ref a_t, .int v1]) ++ List.replicate (2 - (lg_sl ([.ref a_t, .int v1])).length) Slot.unset).toArray = ls at hl ⊢
  have hl : lv_has ls 2 [(0, .ref a_t), (1, .int v1)] := hl
  generalize hQ : MQ below _ _ s _ _ _ = Q
  generalize ([.ref a_t, .int v1] : List Value).toArray = args at hts hQ ⊢
  clear B hD0 hAe
  refine lv_iload_n hx hb dX0_bestHas_0 rfl (lv_at hl 1 rfl) ?_
  refine lv_if_lt (tgt := 32) hx hb dX0_bestHas_1 (by decide) (fun c_1 => ?_) (fun c_1 => ?_)
  · replace h := h.1 c_1
    refine lv_iconst (v := 0) hx hb dX0_bestHas_32 (by decide) ?_
    rw [← hQ]
    exact W.zret (v := (0 : Int32)) hx hb hr rfl (fun t ht hW => ⟨⟨(0 : Int32), (), rfl, h, x_end (w1 := [(a_t, .inr (0, [.ref a_t_ranked, .ref a_t_sets, .ref a_t_spare, .int t_most, .int t_from, .int t_to, .int t_steps, .int t_bestWeight, .int t_bestProfit, .long t_bestBits])), (a_t_ranked, .inr (2, [.ref a_t_ranked_itemAt, .ref a_t_ranked_placeOf, .ref a_t_ranked_weights, .ref a_t_ranked_profits, .int t_ranked_items, .int t_ranked_room, .int t_ranked_breakPlace, .int t_ranked_breakWeight, .int t_ranked_breakProfit]))]) hP hD hK [0, 1] rfl (by decide) rfl ht hW⟩, hS.F ht⟩) hS.2.2 dX0_bestHas_33
  · replace h := h.2 c_1
    refine lv_iload_n hx hb dX0_bestHas_4 rfl (lv_at hl 1 rfl) ?_
    refine lv_aload_n hx hb dX0_bestHas_5 rfl (lv_at hl 0 rfl) ?_
    refine va_get (D := (dC, dI)) (ci := 0) (v := .ref a_t_ranked) (C := RX0) (T := TX0) (N := 10) hx hb hts iX0_bestHas_X0 hown hK hP 0 rfl rfl 0 (Nat.le_of_ble_eq_true rfl) (hts _ kX0_bestHas_0) (fun _ h9 => h9) rfl dX0_bestHas_6 ?_
    refine va_get (D := (dC, dI)) (ci := 2) (v := .int t_ranked_items) (C := RX2) (T := TX2) (N := 9) hx hb hts iX0_bestHas_X2 hown hK hP 1 rfl rfl 4 (Nat.le_of_ble_eq_true rfl) (hts _ kX0_bestHas_1) (fun _ h9 => h9) rfl dX0_bestHas_9 ?_
    refine lv_icmp_ge (tgt := 32) hx hb dX0_bestHas_12 (by decide) (fun c_2 => ?_) (fun c_2 => ?_)
    · replace h := h.1 c_2
      refine lv_iconst (v := 0) hx hb dX0_bestHas_32 (by decide) ?_
      rw [← hQ]
      exact W.zret (v := (0 : Int32)) hx hb hr rfl (fun t ht hW => ⟨⟨(0 : Int32), (), rfl, h, x_end (w1 := [(a_t, .inr (0, [.ref a_t_ranked, .ref a_t_sets, .ref a_t_spare, .int t_most, .int t_from, .int t_to, .int t_steps, .int t_bestWeight, .int t_bestProfit, .long t_bestBits])), (a_t_ranked, .inr (2, [.ref a_t_ranked_itemAt, .ref a_t_ranked_placeOf, .ref a_t_ranked_weights, .ref a_t_ranked_profits, .int t_ranked_items, .int t_ranked_room, .int t_ranked_breakPlace, .int t_ranked_breakWeight, .int t_ranked_breakProfit]))]) hP hD hK [0, 1] rfl (by decide) rfl ht hW⟩, hS.F ht⟩) hS.2.2 dX0_bestHas_33
    · replace h := h.2 c_2
      refine lv_aload_n hx hb dX0_bestHas_15 rfl (lv_at hl 0 rfl) ?_
      refine va_get (D := (dC, dI)) (ci := 0) (v := .long t_bestBits) (C := RX0) (T := TX0) (N := 10) hx hb hts iX0_bestHas_X0 hown hK hP 0 rfl rfl 9 (Nat.le_of_ble_eq_true rfl) (hts _ kX0_bestHas_2) (fun _ h9 => h9) rfl dX0_bestHas_16 ?_
      refine lv_iload_n hx hb dX0_bestHas_19 rfl (lv_at hl 1 rfl) ?_
      refine lv_lushr hx hb dX0_bestHas_20 rfl ?_
      refine lv_lconst (v := 1) hx hb dX0_bestHas_21 (by decide) ?_
      refine lv_land hx hb dX0_bestHas_22 ?_
      refine lv_lconst (v := 1) hx hb dX0_bestHas_23 (by decide) ?_
      refine W.lcmp hx hb dX0_bestHas_24 ?_
      refine lv_if_ne (tgt := 32) hx hb dX0_bestHas_25 (by decide) (fun c_3 => ?_) (fun c_3 => ?_)
      · replace h := h.2 (fun z9 => c_3 ((lg_cmp_eq _ _).mpr z9))
        refine lv_iconst (v := 0) hx hb dX0_bestHas_32 (by decide) ?_
        rw [← hQ]
        exact W.zret (v := (0 : Int32)) hx hb hr rfl (fun t ht hW => ⟨⟨(0 : Int32), (), rfl, h, x_end (w1 := [(a_t, .inr (0, [.ref a_t_ranked, .ref a_t_sets, .ref a_t_spare, .int t_most, .int t_from, .int t_to, .int t_steps, .int t_bestWeight, .int t_bestProfit, .long t_bestBits])), (a_t_ranked, .inr (2, [.ref a_t_ranked_itemAt, .ref a_t_ranked_placeOf, .ref a_t_ranked_weights, .ref a_t_ranked_profits, .int t_ranked_items, .int t_ranked_room, .int t_ranked_breakPlace, .int t_ranked_breakWeight, .int t_ranked_breakProfit]))]) hP hD hK [0, 1] rfl (by decide) rfl ht hW⟩, hS.F ht⟩) hS.2.2 dX0_bestHas_33
      · replace h := h.1 ((lg_cmp_eq _ _).mp c_3)
        refine lv_iconst (v := 1) hx hb dX0_bestHas_28 (by decide) ?_
        refine lv_goto (tgt := 33) hx hb dX0_bestHas_29 (by decide) ?_
        rw [← hQ]
        exact W.zret (v := (1 : Int32)) hx hb hr rfl (fun t ht hW => ⟨⟨(1 : Int32), (), rfl, h, x_end (w1 := [(a_t, .inr (0, [.ref a_t_ranked, .ref a_t_sets, .ref a_t_spare, .int t_most, .int t_from, .int t_to, .int t_steps, .int t_bestWeight, .int t_bestProfit, .long t_bestBits])), (a_t_ranked, .inr (2, [.ref a_t_ranked_itemAt, .ref a_t_ranked_placeOf, .ref a_t_ranked_weights, .ref a_t_ranked_profits, .int t_ranked_items, .int t_ranked_room, .int t_ranked_breakPlace, .int t_ranked_breakWeight, .int t_ranked_breakProfit]))]) hP hD hK [0, 1] rfl (by decide) rfl ht hW⟩, hS.F ht⟩) hS.2.2 dX0_bestHas_33

theorem qJ9_floorDiv_f86c9 : yJ9_floorDiv_f86c9.cls = RJ9 ∧ yJ9_floorDiv_f86c9.cls ≠ "java/lang/invoke/MethodHandle" ∧ yJ9_floorDiv_f86c9.cls ≠ "java/lang/invoke/VarHandle" ∧ (parseMethodDescriptor yJ9_floorDiv_f86c9.desc).map (fun d => d.parameters.length) = some 2 := by decide +kernel
/-- KnapsackCore$Ranked.worthDown(IJ)J -/
def wX2_worthDown (t_items : Int32) (t_weights t_profits : Nat → Int32) (post : Int64 → Prop) (v1 : Int32) (v2 : Int64) : Prop :=
  (v1 < (0 : Int32) → post (0 : Int64)) ∧ (¬ v1 < (0 : Int32) → (t_items ≤ v1 → post (0 : Int64)) ∧ (¬ t_items ≤ v1 → vp_in v1 60 ∧ ((1 : Int32) ≤ (t_weights (v1).toNatClampNeg) → vp_in v1 60 ∧ vp_in v1 60 ∧ wJ9_floorDiv_f86c9 (fun r40 => post r40) (v2 * ((t_profits (v1).toNatClampNeg)).toInt64) (((t_weights (v1).toNatClampNeg)).toInt64)) ∧ (¬ (1 : Int32) ≤ (t_weights (v1).toNatClampNeg) → post (0 : Int64))))
theorem kX2_worthDown_0 : Cond.fieldLink RX2 30 "KnapsackCore$Ranked" "items" "I" ∈ wsX2_worthDown := (List.mem_cons_of_mem _ (List.mem_append_left _ (List.mem_of_getElem? (i := 0) rfl)))
theorem kX2_worthDown_1 : Cond.fieldLink RX2 18 "KnapsackCore$Ranked" "weights" "[I" ∈ wsX2_worthDown := (List.mem_cons_of_mem _ (List.mem_append_left _ (List.mem_of_getElem? (i := 1) rfl)))
theorem kX2_worthDown_2 : Cond.fieldLink RX2 21 "KnapsackCore$Ranked" "profits" "[I" ∈ wsX2_worthDown := (List.mem_cons_of_mem _ (List.mem_append_left _ (List.mem_of_getElem? (i := 2) rfl)))
theorem iX2_worthDown_X2 : ∀ w ∈ u_ws RX2 TX2 9, w ∈ wsX2_worthDown := fun w h => (List.mem_cons_of_mem _ (List.mem_append_right _ h))
set_option maxHeartbeats 4000000 in
set_option maxRecDepth 100000 in
theorem mtX2_worthDown (l : Launch) (ad : (Nat → Nat) × (Nat → Nat)) (dC : Nat → ClassId) (dI : Nat → Nat → Nat) (cy : Nat → ClassId) (a_t a_t_itemAt a_t_placeOf a_t_weights a_t_profits : Nat) (sz : Nat) (t_items t_room t_breakPlace t_breakWeight t_breakProfit : Int32) (t_weights t_profits : Nat → Int32) (v1 : Int32) (v2 : Int64) {post : Int64 → Prop} (h : wX2_worthDown t_items t_weights t_profits post v1 v2) : xMl l yX2_worthDown wsX2_worthDown ({ frames := 1, cells := 0, slots := 0, locals := 25 } : Room) ad (dC, dI) vwCl (xT cy) [.ref a_t, .int v1, .long v2] [(a_t, .inr (2, [.ref a_t_itemAt, .ref a_t_placeOf, .ref a_t_weights, .ref a_t_profits, .int t_items, .int t_room, .int t_breakPlace, .int t_breakWeight, .int t_breakProfit])), (a_t_weights, .inl (cy 0, 60, .inl t_weights)), (a_t_profits, .inl (cy 0, 60, .inl t_profits))] sz (fun (r : Int64) (_ : Unit) => post r) (fun (_ : Unit) w => w = [(a_t, .inr (2, [.ref a_t_itemAt, .ref a_t_placeOf, .ref a_t_weights, .ref a_t_profits, .int t_items, .int t_room, .int t_breakPlace, .int t_breakWeight, .int t_breakProfit])), (a_t_weights, .inl (cy 0, 60, .inl t_weights)), (a_t_profits, .inl (cy 0, 60, .inl t_profits))]) 0 0 := by
  unfold xMl
  refine Met.ofW (cc := cX2_worthDown) (maxL := 4) (ret := (some .long)) (by decide +kernel) rfl ?_
  intro p e s m args below meth c s₁ B hml hv
  obtain ⟨rfl, hsz, hP, hK, hD0, hE⟩ := hv
  have hx := B.exec
  have hb := B.bytes
  have hr := B.returns
  have hts := atoms_spec (ws := wsX2_worthDown) B.pre
  have hown : s.vm.findClass RX2 = some m.cls := findClass_of_methodNamed B.named
  have hlocks := B.notSynchronized
  subst hsz
  have hD := hD0.self (sz := s.heap.size)
  generalize hAe : va_A [(a_t, .inr (2, [.ref a_t_itemAt, .ref a_t_placeOf, .ref a_t_weights, .ref a_t_profits, .int t_items, .int t_room, .int t_breakPlace, .int t_breakWeight, .int t_breakProfit])), (a_t_weights, .inl (cy 0, 60, .inl t_weights)), (a_t_profits, .inl (cy 0, 60, .inl t_profits))] s.heap.size = A at hD hE ⊢
  have hA : ∀ q : Nat, s.heap.size ≤ q → A q := fun q h => by rw [← hAe]; exact Or.inr h
  have hS : va_S A s.heap s.heap [] := va_S.rf
  have hl := lv_entry ([.ref a_t, .int v1, .long v2]) (n := 4) (Nat.le_of_ble_eq_true rfl)
  rw [lg_entry_eq]
  generalize (lg_sl ([.ref a_t, .int v1, .long v2]) ++ List.replicate (4 - (lg_sl ([.ref a_t, .int v1, .long v2])).length) Slot.unset).toArray = ls at hl ⊢
  have hl : lv_has ls 4 [(0, .ref a_t), (1, .int v1), (2, .long v2)] := hl
  generalize hQ : MQ below _ _ s _ _ _ = Q
  generalize ([.ref a_t, .int v1, .long v2] : List Value).toArray = args at hts hQ ⊢
  clear B hD0 hAe
  refine lv_iload_n hx hb dX2_worthDown_0 rfl (lv_at hl 1 rfl) ?_
  refine lv_if_lt (tgt := 22) hx hb dX2_worthDown_1 (by decide) (fun c_1 => ?_) (fun c_1 => ?_)
  · replace h := h.1 c_1
    refine lv_lconst (v := 0) hx hb dX2_worthDown_22 (by decide) ?_
    rw [← hQ]
    exact W.lret (v := (0 : Int64)) hx hb hr (fun t ht hW => ⟨⟨(0 : Int64), (), rfl, h, x_end (w1 := [(a_t, .inr (2, [.ref a_t_itemAt, .ref a_t_placeOf, .ref a_t_weights, .ref a_t_profits, .int t_items, .int t_room, .int t_breakPlace, .int t_breakWeight, .int t_breakProfit])), (a_t_weights, .inl (cy 0, 60, .inl t_weights)), (a_t_profits, .inl (cy 0, 60, .inl t_profits))]) hP hD hK [0, 1, 2] rfl (by decide) rfl ht hW⟩, hS.F ht⟩) hS.2.2 dX2_worthDown_23
  · replace h := h.2 c_1
    refine lv_iload_n hx hb dX2_worthDown_4 rfl (lv_at hl 1 rfl) ?_
    refine lv_aload_n hx hb dX2_worthDown_5 rfl (lv_at hl 0 rfl) ?_
    refine va_get (D := (dC, dI)) (ci := 2) (v := .int t_items) (C := RX2) (T := TX2) (N := 9) hx hb hts iX2_worthDown_X2 hown hK hP 0 rfl rfl 4 (Nat.le_of_ble_eq_true rfl) (hts _ kX2_worthDown_0) (fun _ h9 => h9) rfl dX2_worthDown_6 ?_
    refine lv_icmp_ge (tgt := 22) hx hb dX2_worthDown_9 (by decide) (fun c_2 => ?_) (fun c_2 => ?_)
    · replace h := h.1 c_2
      refine lv_lconst (v := 0) hx hb dX2_worthDown_22 (by decide) ?_
      rw [← hQ]
      exact W.lret (v := (0 : Int64)) hx hb hr (fun t ht hW => ⟨⟨(0 : Int64), (), rfl, h, x_end (w1 := [(a_t, .inr (2, [.ref a_t_itemAt, .ref a_t_placeOf, .ref a_t_weights, .ref a_t_profits, .int t_items, .int t_room, .int t_breakPlace, .int t_breakWeight, .int t_breakProfit])), (a_t_weights, .inl (cy 0, 60, .inl t_weights)), (a_t_profits, .inl (cy 0, 60, .inl t_profits))]) hP hD hK [0, 1, 2] rfl (by decide) rfl ht hW⟩, hS.F ht⟩) hS.2.2 dX2_worthDown_23
    · replace h := h.2 c_2
      refine lv_aload_n hx hb dX2_worthDown_12 rfl (lv_at hl 0 rfl) ?_
      refine va_get (D := (dC, dI)) (ci := 2) (v := .ref a_t_weights) (C := RX2) (T := TX2) (N := 9) hx hb hts iX2_worthDown_X2 hown hK hP 0 rfl rfl 2 (Nat.le_of_ble_eq_true rfl) (hts _ kX2_worthDown_1) (fun _ h9 => h9) rfl dX2_worthDown_13 ?_
      refine lv_iload_n hx hb dX2_worthDown_16 rfl (lv_at hl 1 rfl) ?_
      refine va_iald (D := (dC, dI)) hx hb hK hP 1 0 rfl rfl h.1 dX2_worthDown_17 ?_
      replace h := h.2
      refine lv_iconst (v := 1) hx hb dX2_worthDown_18 (by decide) ?_
      refine lv_icmp_ge (tgt := 24) hx hb dX2_worthDown_19 (by decide) (fun c_3 => ?_) (fun c_3 => ?_)
      · replace h := h.1 c_3
        refine lv_lload_n hx hb dX2_worthDown_24 rfl (lv_at hl 2 rfl) ?_
        refine lv_aload_n hx hb dX2_worthDown_25 rfl (lv_at hl 0 rfl) ?_
        refine va_get (D := (dC, dI)) (ci := 2) (v := .ref a_t_profits) (C := RX2) (T := TX2) (N := 9) hx hb hts iX2_worthDown_X2 hown hK hP 0 rfl rfl 3 (Nat.le_of_ble_eq_true rfl) (hts _ kX2_worthDown_2) (fun _ h9 => h9) rfl dX2_worthDown_26 ?_
        refine lv_iload_n hx hb dX2_worthDown_29 rfl (lv_at hl 1 rfl) ?_
        refine va_iald (D := (dC, dI)) hx hb hK hP 2 0 rfl rfl h.1 dX2_worthDown_30 ?_
        replace h := h.2
        refine lv_i2l hx hb dX2_worthDown_31 rfl ?_
        refine lv_lmul hx hb dX2_worthDown_32 ?_
        refine lv_aload_n hx hb dX2_worthDown_33 rfl (lv_at hl 0 rfl) ?_
        refine va_get (D := (dC, dI)) (ci := 2) (v := .ref a_t_weights) (C := RX2) (T := TX2) (N := 9) hx hb hts iX2_worthDown_X2 hown hK hP 0 rfl rfl 2 (Nat.le_of_ble_eq_true rfl) (hts _ kX2_worthDown_1) (fun _ h9 => h9) rfl dX2_worthDown_34 ?_
        refine lv_iload_n hx hb dX2_worthDown_37 rfl (lv_at hl 1 rfl) ?_
        refine va_iald (D := (dC, dI)) hx hb hK hP 1 0 rfl rfl h.1 dX2_worthDown_38 ?_
        replace h := h.2
        refine lv_i2l hx hb dX2_worthDown_39 rfl ?_
        refine xSl0 (As := [.long (v2 * ((t_profits (v1).toNatClampNeg)).toInt64), .long (((t_weights (v1).toNatClampNeg)).toInt64)]) (rest := []) ⟨hx, hb, hml, hown, hts⟩ (mtJ9_floorDiv_f86c9 l ad dC dI cy  _  (v2 * ((t_profits (v1).toNatClampNeg)).toInt64) (((t_weights (v1).toNatClampNeg)).toInt64) h) (va_cwS 2 hts gX2_worthDown_J9_floorDiv_f86c9 rfl rfl rfl qJ9_floorDiv_f86c9.2 ⟨Nat.le_of_ble_eq_true rfl, Nat.le_of_ble_eq_true rfl⟩) hE hK hP hD hS hA [] rfl (by decide) rfl hl.1 rfl (Nat.le_of_ble_eq_true rfl) dX2_worthDown_40 ⟨Nat.le_refl _, Nat.le_refl _⟩ (fun r40 H locs h hP hS => ?_)
        try dsimp only at h
        rw [← hQ]
        exact W.lret (v := r40) hx hb hr (fun t ht hW => ⟨⟨r40, (), rfl, h, x_end (w1 := [(a_t, .inr (2, [.ref a_t_itemAt, .ref a_t_placeOf, .ref a_t_weights, .ref a_t_profits, .int t_items, .int t_room, .int t_breakPlace, .int t_breakWeight, .int t_breakProfit])), (a_t_weights, .inl (cy 0, 60, .inl t_weights)), (a_t_profits, .inl (cy 0, 60, .inl t_profits))]) hP hD hK [0, 1, 2] rfl (by decide) rfl ht hW⟩, hS.F ht⟩) hS.2.2 dX2_worthDown_43
      · replace h := h.2 c_3
        refine lv_lconst (v := 0) hx hb dX2_worthDown_22 (by decide) ?_
        rw [← hQ]
        exact W.lret (v := (0 : Int64)) hx hb hr (fun t ht hW => ⟨⟨(0 : Int64), (), rfl, h, x_end (w1 := [(a_t, .inr (2, [.ref a_t_itemAt, .ref a_t_placeOf, .ref a_t_weights, .ref a_t_profits, .int t_items, .int t_room, .int t_breakPlace, .int t_breakWeight, .int t_breakProfit])), (a_t_weights, .inl (cy 0, 60, .inl t_weights)), (a_t_profits, .inl (cy 0, 60, .inl t_profits))]) hP hD hK [0, 1, 2] rfl (by decide) rfl ht hW⟩, hS.F ht⟩) hS.2.2 dX2_worthDown_23

theorem qX2_worthDown : yX2_worthDown.cls = RX2 ∧ yX2_worthDown.cls ≠ "java/lang/invoke/MethodHandle" ∧ yX2_worthDown.cls ≠ "java/lang/invoke/VarHandle" ∧ (parseMethodDescriptor yX2_worthDown.desc).map (fun d => d.parameters.length) = some 2 := by decide +kernel
def wX0_boundOf_73 (t_from t_to t_ranked_items t_ranked_room : Int32) (t_sets_weights : Nat → Int32) (n_t_sets_weights : Nat) (t_sets_profits : Nat → Int32) (n_t_sets_profits : Nat) (t_ranked_weights t_ranked_profits : Nat → Int32) (post : Int64 → Prop) (v2 k0 : Int64) (k2 : Int32) : Prop :=
  wX2_worthDown t_ranked_items t_ranked_weights t_ranked_profits (fun r74 => post (k0 + r74)) k2 v2
def wX0_boundOf_38 (t_from t_to t_ranked_items t_ranked_room : Int32) (t_sets_weights : Nat → Int32) (n_t_sets_weights : Nat) (t_sets_profits : Nat → Int32) (n_t_sets_profits : Nat) (t_ranked_weights t_ranked_profits : Nat → Int32) (post : Int64 → Prop) (v1 : Int32) (v2 : Int64) : Prop :=
  vp_in v1 n_t_sets_profits ∧ ((0 : Int64) ≤ v2 → wX0_boundOf_73 t_from t_to t_ranked_items t_ranked_room t_sets_weights n_t_sets_weights t_sets_profits n_t_sets_profits t_ranked_weights t_ranked_profits post v2 (((t_sets_profits (v1).toNatClampNeg)).toInt64) (t_to + (1 : Int32))) ∧ (¬ (0 : Int64) ≤ v2 → wX0_boundOf_73 t_from t_to t_ranked_items t_ranked_room t_sets_weights n_t_sets_weights t_sets_profits n_t_sets_profits t_ranked_weights t_ranked_profits post v2 (((t_sets_profits (v1).toNatClampNeg)).toInt64) (t_from - (1 : Int32)))
/-- KnapsackCore$Core.boundOf(I)J -/
def wX0_boundOf (t_from t_to t_ranked_items t_ranked_room : Int32) (t_sets_weights : Nat → Int32) (n_t_sets_weights : Nat) (t_sets_profits : Nat → Int32) (n_t_sets_profits : Nat) (t_ranked_weights t_ranked_profits : Nat → Int32) (post : Int64 → Prop) (v1 : Int32) : Prop :=
  vp_in v1 n_t_sets_weights ∧ ((0 : Int64) ≤ ((t_ranked_room).toInt64 - ((t_sets_weights (v1).toNatClampNeg)).toInt64) → wX0_boundOf_38 t_from t_to t_ranked_items t_ranked_room t_sets_weights n_t_sets_weights t_sets_profits n_t_sets_profits t_ranked_weights t_ranked_profits post v1 ((t_ranked_room).toInt64 - ((t_sets_weights (v1).toNatClampNeg)).toInt64)) ∧ (¬ (0 : Int64) ≤ ((t_ranked_room).toInt64 - ((t_sets_weights (v1).toNatClampNeg)).toInt64) → ((1 : Int32) ≤ t_from → wX0_boundOf_38 t_from t_to t_ranked_items t_ranked_room t_sets_weights n_t_sets_weights t_sets_profits n_t_sets_profits t_ranked_weights t_ranked_profits post v1 ((t_ranked_room).toInt64 - ((t_sets_weights (v1).toNatClampNeg)).toInt64)) ∧ (¬ (1 : Int32) ≤ t_from → post (-1 : Int64)))
theorem kX0_boundOf_0 : Cond.fieldLink RX0 21 "KnapsackCore$Core" "sets" "LKnapsackCore$Sets;" ∈ wsX0_boundOf := (List.mem_cons_of_mem _ (List.mem_append_left _ (List.mem_append_left _ (List.mem_append_left _ (List.mem_of_getElem? (i := 2) rfl)))))
theorem kX0_boundOf_1 : Cond.fieldLink RX0 115 "KnapsackCore$Sets" "profits" "[I" ∈ wsX0_boundOf := (List.mem_cons_of_mem _ (List.mem_append_left _ (List.mem_append_left _ (List.mem_append_left _ (List.mem_of_getElem? (i := 6) rfl)))))
theorem kX0_boundOf_2 : Cond.fieldLink RX0 12 "KnapsackCore$Core" "ranked" "LKnapsackCore$Ranked;" ∈ wsX0_boundOf := (List.mem_cons_of_mem _ (List.mem_append_left _ (List.mem_append_left _ (List.mem_append_left _ (List.mem_of_getElem? (i := 0) rfl)))))
theorem kX0_boundOf_3 : Cond.fieldLink RX0 45 "KnapsackCore$Core" "to" "I" ∈ wsX0_boundOf := (List.mem_cons_of_mem _ (List.mem_append_left _ (List.mem_append_left _ (List.mem_append_left _ (List.mem_of_getElem? (i := 7) rfl)))))
theorem kX0_boundOf_4 : Cond.fieldLink RX0 42 "KnapsackCore$Core" "from" "I" ∈ wsX0_boundOf := (List.mem_cons_of_mem _ (List.mem_append_left _ (List.mem_append_left _ (List.mem_append_left _ (List.mem_of_getElem? (i := 4) rfl)))))
theorem kX0_boundOf_5 : Cond.fieldLink RX0 108 "KnapsackCore$Ranked" "room" "I" ∈ wsX0_boundOf := (List.mem_cons_of_mem _ (List.mem_append_left _ (List.mem_append_left _ (List.mem_append_left _ (List.mem_of_getElem? (i := 1) rfl)))))
theorem kX0_boundOf_6 : Cond.fieldLink RX0 107 "KnapsackCore$Sets" "weights" "[I" ∈ wsX0_boundOf := (List.mem_cons_of_mem _ (List.mem_append_left _ (List.mem_append_left _ (List.mem_append_left _ (List.mem_of_getElem? (i := 3) rfl)))))
theorem kX0_boundOf_7 : Cond.constantLong RX0 128 (-1) ∈ wsX0_boundOf := (List.mem_cons_of_mem _ (List.mem_append_left _ (List.mem_append_left _ (List.mem_append_left _ (List.mem_of_getElem? (i := 5) rfl)))))
theorem iX0_boundOf_X0 : ∀ w ∈ u_ws RX0 TX0 10, w ∈ wsX0_boundOf := fun w h => (List.mem_cons_of_mem _ (List.mem_append_left _ (List.mem_append_left _ (List.mem_append_right _ h))))
theorem iX0_boundOf_X4 : ∀ w ∈ u_ws RX4 TX4 4, w ∈ wsX0_boundOf := fun w h => (List.mem_cons_of_mem _ (List.mem_append_right _ h))
theorem iX0_boundOf_X2 : ∀ w ∈ u_ws RX2 TX2 9, w ∈ wsX0_boundOf := fun w h => (List.mem_cons_of_mem _ (List.mem_append_left _ (List.mem_append_right _ h)))
set_option maxHeartbeats 4000000 in
set_option maxRecDepth 100000 in
theorem mtX0_boundOf (l : Launch) (ad : (Nat → Nat) × (Nat → Nat)) (dC : Nat → ClassId) (dI : Nat → Nat → Nat) (cy : Nat → ClassId) (a_t a_t_ranked a_t_sets a_t_spare a_t_ranked_itemAt a_t_ranked_placeOf a_t_ranked_weights a_t_ranked_profits a_t_sets_weights a_t_sets_profits a_t_sets_bits : Nat) (sz : Nat) (t_most t_from t_to t_steps t_bestWeight t_bestProfit : Int32) (t_bestBits : Int64) (t_ranked_items t_ranked_room t_ranked_breakPlace t_ranked_breakWeight t_ranked_breakProfit t_sets_size : Int32) (t_sets_weights : Nat → Int32) (n_t_sets_weights : Nat) (t_sets_profits : Nat → Int32) (n_t_sets_profits : Nat) (t_ranked_weights t_ranked_profits : Nat → Int32) (v1 : Int32) {post : Int64 → Prop} (h : wX0_boundOf t_from t_to t_ranked_items t_ranked_room t_sets_weights n_t_sets_weights t_sets_profits n_t_sets_profits t_ranked_weights t_ranked_profits post v1) : xMl l yX0_boundOf wsX0_boundOf ({ frames := 2, cells := 0, slots := 0, locals := 48 } : Room) ad (dC, dI) vwCl (xT cy) [.ref a_t, .int v1] [(a_t, .inr (0, [.ref a_t_ranked, .ref a_t_sets, .ref a_t_spare, .int t_most, .int t_from, .int t_to, .int t_steps, .int t_bestWeight, .int t_bestProfit, .long t_bestBits])), (a_t_ranked, .inr (2, [.ref a_t_ranked_itemAt, .ref a_t_ranked_placeOf, .ref a_t_ranked_weights, .ref a_t_ranked_profits, .int t_ranked_items, .int t_ranked_room, .int t_ranked_breakPlace, .int t_ranked_breakWeight, .int t_ranked_breakProfit])), (a_t_sets, .inr (4, [.ref a_t_sets_weights, .ref a_t_sets_profits, .ref a_t_sets_bits, .int t_sets_size])), (a_t_sets_weights, .inl (cy 0, n_t_sets_weights, .inl t_sets_weights)), (a_t_sets_profits, .inl (cy 0, n_t_sets_profits, .inl t_sets_profits)), (a_t_ranked_weights, .inl (cy 0, 60, .inl t_ranked_weights)), (a_t_ranked_profits, .inl (cy 0, 60, .inl t_ranked_profits))] sz (fun (r : Int64) (_ : Unit) => post r) (fun (_ : Unit) w => w = [(a_t, .inr (0, [.ref a_t_ranked, .ref a_t_sets, .ref a_t_spare, .int t_most, .int t_from, .int t_to, .int t_steps, .int t_bestWeight, .int t_bestProfit, .long t_bestBits])), (a_t_ranked, .inr (2, [.ref a_t_ranked_itemAt, .ref a_t_ranked_placeOf, .ref a_t_ranked_weights, .ref a_t_ranked_profits, .int t_ranked_items, .int t_ranked_room, .int t_ranked_breakPlace, .int t_ranked_breakWeight, .int t_ranked_breakProfit])), (a_t_sets, .inr (4, [.ref a_t_sets_weights, .ref a_t_sets_profits, .ref a_t_sets_bits, .int t_sets_size])), (a_t_sets_weights, .inl (cy 0, n_t_sets_weights, .inl t_sets_weights)), (a_t_sets_profits, .inl (cy 0, n_t_sets_profits, .inl t_sets_profits)), (a_t_ranked_weights, .inl (cy 0, 60, .inl t_ranked_weights)), (a_t_ranked_profits, .inl (cy 0, 60, .inl t_ranked_profits))]) 0 0 := by
  unfold xMl
  refine Met.ofW (cc := cX0_boundOf) (maxL := 4) (ret := (some .long)) (by decide +kernel) rfl ?_
  intro p e s m args below meth c s₁ B hml hv
  obtain ⟨rfl, hsz, hP, hK, hD0, hE⟩ := hv
  have hx := B.exec
  have hb := B.bytes
  have hr := B.returns
  have hts := atoms_spec (ws := wsX0_boundOf) B.pre
  have hown : s.vm.findClass RX0 = some m.cls := findClass_of_methodNamed B.named
  have hlocks := B.notSynchronized
  subst hsz
  have hD := hD0.self (sz := s.heap.size)
  generalize hAe : va_A [(a_t, .inr (0, [.ref a_t_ranked, .ref a_t_sets, .ref a_t_spare, .int t_most, .int t_from, .int t_to, .int t_steps, .int t_bestWeight, .int t_bestProfit, .long t_bestBits])), (a_t_ranked, .inr (2, [.ref a_t_ranked_itemAt, .ref a_t_ranked_placeOf, .ref a_t_ranked_weights, .ref a_t_ranked_profits, .int t_ranked_items, .int t_ranked_room, .int t_ranked_breakPlace, .int t_ranked_breakWeight, .int t_ranked_breakProfit])), (a_t_sets, .inr (4, [.ref a_t_sets_weights, .ref a_t_sets_profits, .ref a_t_sets_bits, .int t_sets_size])), (a_t_sets_weights, .inl (cy 0, n_t_sets_weights, .inl t_sets_weights)), (a_t_sets_profits, .inl (cy 0, n_t_sets_profits, .inl t_sets_profits)), (a_t_ranked_weights, .inl (cy 0, 60, .inl t_ranked_weights)), (a_t_ranked_profits, .inl (cy 0, 60, .inl t_ranked_profits))] s.heap.size = A at hD hE ⊢
  have hA : ∀ q : Nat, s.heap.size ≤ q → A q := fun q h => by rw [← hAe]; exact Or.inr h
  have hS : va_S A s.heap s.heap [] := va_S.rf
  have hl := lv_entry ([.ref a_t, .int v1]) (n := 4) (Nat.le_of_ble_eq_true rfl)
  rw [lg_entry_eq]
  generalize (lg_sl ([.ref a_t, .int v1]) ++ List.replicate (4 - (lg_sl ([.ref a_t, .int v1])).length) Slot.unset).toArray = ls at hl ⊢
  have hl : lv_has ls 4 [(0, .ref a_t), (1, .int v1)] := hl
  generalize hQ : MQ below _ _ s _ _ _ = Q
  generalize ([.ref a_t, .int v1] : List Value).toArray = args at hts hQ ⊢
  clear B hD0 hAe
  have C73 : ∀ (v2 k0 : Int64) (k2 : Int32), wX0_boundOf_73 t_from t_to t_ranked_items t_ranked_room t_sets_weights n_t_sets_weights t_sets_profits n_t_sets_profits t_ranked_weights t_ranked_profits post v2 k0 k2 → ∀ (H : Heap) (locs : List Loc) (ls : Array Slot), va_P (dC, dI) vwCl [(a_t, .inr (0, [.ref a_t_ranked, .ref a_t_sets, .ref a_t_spare, .int t_most, .int t_from, .int t_to, .int t_steps, .int t_bestWeight, .int t_bestProfit, .long t_bestBits])), (a_t_ranked, .inr (2, [.ref a_t_ranked_itemAt, .ref a_t_ranked_placeOf, .ref a_t_ranked_weights, .ref a_t_ranked_profits, .int t_ranked_items, .int t_ranked_room, .int t_ranked_breakPlace, .int t_ranked_breakWeight, .int t_ranked_breakProfit])), (a_t_sets, .inr (4, [.ref a_t_sets_weights, .ref a_t_sets_profits, .ref a_t_sets_bits, .int t_sets_size])), (a_t_sets_weights, .inl (cy 0, n_t_sets_weights, .inl t_sets_weights)), (a_t_sets_profits, .inl (cy 0, n_t_sets_profits, .inl t_sets_profits)), (a_t_ranked_weights, .inl (cy 0, 60, .inl t_ranked_weights)), (a_t_ranked_profits, .inl (cy 0, 60, .inl t_ranked_profits))] H → va_D A [(a_t, .inr (0, [.ref a_t_ranked, .ref a_t_sets, .ref a_t_spare, .int t_most, .int t_from, .int t_to, .int t_steps, .int t_bestWeight, .int t_bestProfit, .long t_bestBits])), (a_t_ranked, .inr (2, [.ref a_t_ranked_itemAt, .ref a_t_ranked_placeOf, .ref a_t_ranked_weights, .ref a_t_ranked_profits, .int t_ranked_items, .int t_ranked_room, .int t_ranked_breakPlace, .int t_ranked_breakWeight, .int t_ranked_breakProfit])), (a_t_sets, .inr (4, [.ref a_t_sets_weights, .ref a_t_sets_profits, .ref a_t_sets_bits, .int t_sets_size])), (a_t_sets_weights, .inl (cy 0, n_t_sets_weights, .inl t_sets_weights)), (a_t_sets_profits, .inl (cy 0, n_t_sets_profits, .inl t_sets_profits)), (a_t_ranked_weights, .inl (cy 0, 60, .inl t_ranked_weights)), (a_t_ranked_profits, .inl (cy 0, 60, .inl t_ranked_profits))] → va_S A s.heap H locs → lv_has ls 4 [(2, .long v2)] → W p l e (headSpec wsX0_boundOf ({ frames := 2, cells := 0, slots := 0, locals := 48 } : Room)).room s m args below meth c H locs 0 0 Q (F0 m 73 ls [.int k2, .ref a_t_ranked, .long k0]) := by
    intro v2 k0 k2 h H locs ls hP hD hS hl
    refine lv_lload_n hx hb dX0_boundOf_73 rfl (lv_at hl 0 rfl) ?_
    refine xVl0 (As := [.int k2, .long v2]) (rest := [.long k0]) ⟨hx, hb, hml, hown, hts⟩ (mtX2_worthDown l ad dC dI cy a_t_ranked a_t_ranked_itemAt a_t_ranked_placeOf a_t_ranked_weights a_t_ranked_profits _ t_ranked_items t_ranked_room t_ranked_breakPlace t_ranked_breakWeight t_ranked_breakProfit t_ranked_weights t_ranked_profits k2 v2 h) (cwV 2 hts gX0_boundOf_X2_worthDown rfl rfl rfl qX2_worthDown ⟨Nat.le_of_ble_eq_true rfl, Nat.le_of_ble_eq_true rfl⟩) hE hK hP hD hS hA 2 0 rfl rfl rfl [1, 5, 6] rfl (by decide) rfl hl.1 rfl (Nat.le_of_ble_eq_true rfl) dX0_boundOf_74 ⟨Nat.le_refl _, Nat.le_refl _⟩ (fun r74 H locs h hP hS => ?_)
    try dsimp only at h
    refine lv_ladd hx hb dX0_boundOf_77 ?_
    rw [← hQ]
    exact W.lret (v := (k0 + r74)) hx hb hr (fun t ht hW => ⟨⟨(k0 + r74), (), rfl, h, x_end (w1 := [(a_t, .inr (0, [.ref a_t_ranked, .ref a_t_sets, .ref a_t_spare, .int t_most, .int t_from, .int t_to, .int t_steps, .int t_bestWeight, .int t_bestProfit, .long t_bestBits])), (a_t_ranked, .inr (2, [.ref a_t_ranked_itemAt, .ref a_t_ranked_placeOf, .ref a_t_ranked_weights, .ref a_t_ranked_profits, .int t_ranked_items, .int t_ranked_room, .int t_ranked_breakPlace, .int t_ranked_breakWeight, .int t_ranked_breakProfit])), (a_t_sets, .inr (4, [.ref a_t_sets_weights, .ref a_t_sets_profits, .ref a_t_sets_bits, .int t_sets_size])), (a_t_sets_weights, .inl (cy 0, n_t_sets_weights, .inl t_sets_weights)), (a_t_sets_profits, .inl (cy 0, n_t_sets_profits, .inl t_sets_profits)), (a_t_ranked_weights, .inl (cy 0, 60, .inl t_ranked_weights)), (a_t_ranked_profits, .inl (cy 0, 60, .inl t_ranked_profits))]) hP hD hK [0, 1, 2, 3, 4, 5, 6] rfl (by decide) rfl ht hW⟩, hS.F ht⟩) hS.2.2 dX0_boundOf_78
  have C38 : ∀ (v1 : Int32) (v2 : Int64), wX0_boundOf_38 t_from t_to t_ranked_items t_ranked_room t_sets_weights n_t_sets_weights t_sets_profits n_t_sets_profits t_ranked_weights t_ranked_profits post v1 v2 → ∀ (H : Heap) (locs : List Loc) (ls : Array Slot), va_P (dC, dI) vwCl [(a_t, .inr (0, [.ref a_t_ranked, .ref a_t_sets, .ref a_t_spare, .int t_most, .int t_from, .int t_to, .int t_steps, .int t_bestWeight, .int t_bestProfit, .long t_bestBits])), (a_t_ranked, .inr (2, [.ref a_t_ranked_itemAt, .ref a_t_ranked_placeOf, .ref a_t_ranked_weights, .ref a_t_ranked_profits, .int t_ranked_items, .int t_ranked_room, .int t_ranked_breakPlace, .int t_ranked_breakWeight, .int t_ranked_breakProfit])), (a_t_sets, .inr (4, [.ref a_t_sets_weights, .ref a_t_sets_profits, .ref a_t_sets_bits, .int t_sets_size])), (a_t_sets_weights, .inl (cy 0, n_t_sets_weights, .inl t_sets_weights)), (a_t_sets_profits, .inl (cy 0, n_t_sets_profits, .inl t_sets_profits)), (a_t_ranked_weights, .inl (cy 0, 60, .inl t_ranked_weights)), (a_t_ranked_profits, .inl (cy 0, 60, .inl t_ranked_profits))] H → va_D A [(a_t, .inr (0, [.ref a_t_ranked, .ref a_t_sets, .ref a_t_spare, .int t_most, .int t_from, .int t_to, .int t_steps, .int t_bestWeight, .int t_bestProfit, .long t_bestBits])), (a_t_ranked, .inr (2, [.ref a_t_ranked_itemAt, .ref a_t_ranked_placeOf, .ref a_t_ranked_weights, .ref a_t_ranked_profits, .int t_ranked_items, .int t_ranked_room, .int t_ranked_breakPlace, .int t_ranked_breakWeight, .int t_ranked_breakProfit])), (a_t_sets, .inr (4, [.ref a_t_sets_weights, .ref a_t_sets_profits, .ref a_t_sets_bits, .int t_sets_size])), (a_t_sets_weights, .inl (cy 0, n_t_sets_weights, .inl t_sets_weights)), (a_t_sets_profits, .inl (cy 0, n_t_sets_profits, .inl t_sets_profits)), (a_t_ranked_weights, .inl (cy 0, 60, .inl t_ranked_weights)), (a_t_ranked_profits, .inl (cy 0, 60, .inl t_ranked_profits))] → va_S A s.heap H locs → lv_has ls 4 [(0, .ref a_t), (1, .int v1), (2, .long v2)] → W p l e (headSpec wsX0_boundOf ({ frames := 2, cells := 0, slots := 0, locals := 48 } : Room)).room s m args below meth c H locs 0 0 Q (F0 m 38 ls []) := by
    intro v1 v2 h H locs ls hP hD hS hl
    refine lv_aload_n hx hb dX0_boundOf_38 rfl (lv_at hl 0 rfl) ?_
    refine va_get (D := (dC, dI)) (ci := 0) (v := .ref a_t_sets) (C := RX0) (T := TX0) (N := 10) hx hb hts iX0_boundOf_X0 hown hK hP 0 rfl rfl 1 (Nat.le_of_ble_eq_true rfl) (hts _ kX0_boundOf_0) (fun _ h9 => h9) rfl dX0_boundOf_39 ?_
    refine va_get (D := (dC, dI)) (ci := 4) (v := .ref a_t_sets_profits) (C := RX4) (T := TX4) (N := 4) hx hb hts iX0_boundOf_X4 hown hK hP 2 rfl rfl 1 (Nat.le_of_ble_eq_true rfl) (hts _ kX0_boundOf_1) (fun _ h9 => h9) rfl dX0_boundOf_42 ?_
    refine lv_iload_n hx hb dX0_boundOf_45 rfl (lv_at hl 1 rfl) ?_
    refine va_iald (D := (dC, dI)) hx hb hK hP 4 0 rfl rfl h.1 dX0_boundOf_46 ?_
    replace h := h.2
    refine lv_i2l hx hb dX0_boundOf_47 rfl ?_
    refine lv_aload_n hx hb dX0_boundOf_48 rfl (lv_at hl 0 rfl) ?_
    refine va_get (D := (dC, dI)) (ci := 0) (v := .ref a_t_ranked) (C := RX0) (T := TX0) (N := 10) hx hb hts iX0_boundOf_X0 hown hK hP 0 rfl rfl 0 (Nat.le_of_ble_eq_true rfl) (hts _ kX0_boundOf_2) (fun _ h9 => h9) rfl dX0_boundOf_49 ?_
    refine lv_lload_n hx hb dX0_boundOf_52 rfl (lv_at hl 2 rfl) ?_
    refine lv_lconst (v := 0) hx hb dX0_boundOf_53 (by decide) ?_
    refine W.lcmp hx hb dX0_boundOf_54 ?_
    refine lv_if_ge (tgt := 67) hx hb dX0_boundOf_55 (by decide) (fun c_1 => ?_) (fun c_1 => ?_)
    · replace h := h.1 ((lg_cmp_ge _ _).mp c_1)
      refine lv_aload_n hx hb dX0_boundOf_67 rfl (lv_at hl 0 rfl) ?_
      refine va_get (D := (dC, dI)) (ci := 0) (v := .int t_to) (C := RX0) (T := TX0) (N := 10) hx hb hts iX0_boundOf_X0 hown hK hP 0 rfl rfl 5 (Nat.le_of_ble_eq_true rfl) (hts _ kX0_boundOf_3) (fun _ h9 => h9) rfl dX0_boundOf_68 ?_
      refine lv_iconst (v := 1) hx hb dX0_boundOf_71 (by decide) ?_
      refine lv_iadd hx hb dX0_boundOf_72 ?_
      exact C73 v2 (((t_sets_profits (v1).toNatClampNeg)).toInt64) (t_to + (1 : Int32)) h _ _ _ (x_sub hP [0, 1, 2, 3, 4, 5, 6] rfl) (hD.sub [0, 1, 2, 3, 4, 5, 6] (by decide) rfl) hS (lv_sub hl [2] rfl)
    · replace h := h.2 (fun z9 => c_1 ((lg_cmp_ge _ _).mpr z9))
      refine lv_aload_n hx hb dX0_boundOf_58 rfl (lv_at hl 0 rfl) ?_
      refine va_get (D := (dC, dI)) (ci := 0) (v := .int t_from) (C := RX0) (T := TX0) (N := 10) hx hb hts iX0_boundOf_X0 hown hK hP 0 rfl rfl 4 (Nat.le_of_ble_eq_true rfl) (hts _ kX0_boundOf_4) (fun _ h9 => h9) rfl dX0_boundOf_59 ?_
      refine lv_iconst (v := 1) hx hb dX0_boundOf_62 (by decide) ?_
      refine lv_isub hx hb dX0_boundOf_63 ?_
      refine lv_goto (tgt := 73) hx hb dX0_boundOf_64 (by decide) ?_
      exact C73 v2 (((t_sets_profits (v1).toNatClampNeg)).toInt64) (t_from - (1 : Int32)) h _ _ _ (x_sub hP [0, 1, 2, 3, 4, 5, 6] rfl) (hD.sub [0, 1, 2, 3, 4, 5, 6] (by decide) rfl) hS (lv_sub hl [2] rfl)
  refine lv_aload_n hx hb dX0_boundOf_0 rfl (lv_at hl 0 rfl) ?_
  refine va_get (D := (dC, dI)) (ci := 0) (v := .ref a_t_ranked) (C := RX0) (T := TX0) (N := 10) hx hb hts iX0_boundOf_X0 hown hK hP 0 rfl rfl 0 (Nat.le_of_ble_eq_true rfl) (hts _ kX0_boundOf_2) (fun _ h9 => h9) rfl dX0_boundOf_1 ?_
  refine va_get (D := (dC, dI)) (ci := 2) (v := .int t_ranked_room) (C := RX2) (T := TX2) (N := 9) hx hb hts iX0_boundOf_X2 hown hK hP 1 rfl rfl 5 (Nat.le_of_ble_eq_true rfl) (hts _ kX0_boundOf_5) (fun _ h9 => h9) rfl dX0_boundOf_4 ?_
  refine lv_i2l hx hb dX0_boundOf_7 rfl ?_
  refine lv_aload_n hx hb dX0_boundOf_8 rfl (lv_at hl 0 rfl) ?_
  refine va_get (D := (dC, dI)) (ci := 0) (v := .ref a_t_sets) (C := RX0) (T := TX0) (N := 10) hx hb hts iX0_boundOf_X0 hown hK hP 0 rfl rfl 1 (Nat.le_of_ble_eq_true rfl) (hts _ kX0_boundOf_0) (fun _ h9 => h9) rfl dX0_boundOf_9 ?_
  refine va_get (D := (dC, dI)) (ci := 4) (v := .ref a_t_sets_weights) (C := RX4) (T := TX4) (N := 4) hx hb hts iX0_boundOf_X4 hown hK hP 2 rfl rfl 0 (Nat.le_of_ble_eq_true rfl) (hts _ kX0_boundOf_6) (fun _ h9 => h9) rfl dX0_boundOf_12 ?_
  refine lv_iload_n hx hb dX0_boundOf_15 rfl (lv_at hl 1 rfl) ?_
  refine va_iald (D := (dC, dI)) hx hb hK hP 3 0 rfl rfl h.1 dX0_boundOf_16 ?_
  replace h := h.2
  refine lv_i2l hx hb dX0_boundOf_17 rfl ?_
  refine lv_lsub hx hb dX0_boundOf_18 ?_
  refine lv_lstore_n (lv' := [(2, .long ((t_ranked_room).toInt64 - ((t_sets_weights (v1).toNatClampNeg)).toInt64)), (0, .ref a_t), (1, .int v1)]) hx hb dX0_boundOf_19 rfl hl (by decide) rfl (fun ls hl => ?_)
  refine lv_lload_n hx hb dX0_boundOf_20 rfl (lv_at hl 0 rfl) ?_
  refine lv_lconst (v := 0) hx hb dX0_boundOf_21 (by decide) ?_
  refine W.lcmp hx hb dX0_boundOf_22 ?_
  refine lv_if_ge (tgt := 38) hx hb dX0_boundOf_23 (by decide) (fun c_2 => ?_) (fun c_2 => ?_)
  · replace h := h.1 ((lg_cmp_ge _ _).mp c_2)
    exact C38 v1 ((t_ranked_room).toInt64 - ((t_sets_weights (v1).toNatClampNeg)).toInt64) h _ _ _ (x_sub hP [0, 1, 2, 3, 4, 5, 6] rfl) (hD.sub [0, 1, 2, 3, 4, 5, 6] (by decide) rfl) hS (lv_sub hl [1, 2, 0] rfl)
  · replace h := h.2 (fun z9 => c_2 ((lg_cmp_ge _ _).mpr z9))
    refine lv_aload_n hx hb dX0_boundOf_26 rfl (lv_at hl 1 rfl) ?_
    refine va_get (D := (dC, dI)) (ci := 0) (v := .int t_from) (C := RX0) (T := TX0) (N := 10) hx hb hts iX0_boundOf_X0 hown hK hP 0 rfl rfl 4 (Nat.le_of_ble_eq_true rfl) (hts _ kX0_boundOf_4) (fun _ h9 => h9) rfl dX0_boundOf_27 ?_
    refine lv_iconst (v := 1) hx hb dX0_boundOf_30 (by decide) ?_
    refine lv_icmp_ge (tgt := 38) hx hb dX0_boundOf_31 (by decide) (fun c_3 => ?_) (fun c_3 => ?_)
    · replace h := h.1 c_3
      exact C38 v1 ((t_ranked_room).toInt64 - ((t_sets_weights (v1).toNatClampNeg)).toInt64) h _ _ _ (x_sub hP [0, 1, 2, 3, 4, 5, 6] rfl) (hD.sub [0, 1, 2, 3, 4, 5, 6] (by decide) rfl) hS (lv_sub hl [1, 2, 0] rfl)
    · replace h := h.2 c_3
      refine lv_ldc2 hx hb hown (hts _ kX0_boundOf_7) dX0_boundOf_34 ?_
      rw [← hQ]
      exact W.lret (v := (-1 : Int64)) hx hb hr (fun t ht hW => ⟨⟨(-1 : Int64), (), rfl, h, x_end (w1 := [(a_t, .inr (0, [.ref a_t_ranked, .ref a_t_sets, .ref a_t_spare, .int t_most, .int t_from, .int t_to, .int t_steps, .int t_bestWeight, .int t_bestProfit, .long t_bestBits])), (a_t_ranked, .inr (2, [.ref a_t_ranked_itemAt, .ref a_t_ranked_placeOf, .ref a_t_ranked_weights, .ref a_t_ranked_profits, .int t_ranked_items, .int t_ranked_room, .int t_ranked_breakPlace, .int t_ranked_breakWeight, .int t_ranked_breakProfit])), (a_t_sets, .inr (4, [.ref a_t_sets_weights, .ref a_t_sets_profits, .ref a_t_sets_bits, .int t_sets_size])), (a_t_sets_weights, .inl (cy 0, n_t_sets_weights, .inl t_sets_weights)), (a_t_sets_profits, .inl (cy 0, n_t_sets_profits, .inl t_sets_profits)), (a_t_ranked_weights, .inl (cy 0, 60, .inl t_ranked_weights)), (a_t_ranked_profits, .inl (cy 0, 60, .inl t_ranked_profits))]) hP hD hK [0, 1, 2, 3, 4, 5, 6] rfl (by decide) rfl ht hW⟩, hS.F ht⟩) hS.2.2 dX0_boundOf_37

def wX0_countFitting_2_b (t_sets_size t_ranked_room : Int32) (t_sets_weights : Nat → Int32) (n_t_sets_weights : Nat) (post : Int32 → Prop) (K2 : Int32 → Prop) (v1 : Int32) : Prop :=
  (t_sets_size ≤ v1 → post v1) ∧ (¬ t_sets_size ≤ v1 → vp_in v1 n_t_sets_weights ∧ (t_ranked_room < (t_sets_weights (v1).toNatClampNeg) → post v1) ∧ (¬ t_ranked_room < (t_sets_weights (v1).toNatClampNeg) → K2 (v1 + (1 : Int32))))
def wX0_countFitting_2 (t_sets_size t_ranked_room : Int32) (t_sets_weights : Nat → Int32) (n_t_sets_weights : Nat) (post : Int32 → Prop) : Nat → Int32 → Prop
  | 0 => fun _ => False
  | n + 1 => wX0_countFitting_2_b t_sets_size t_ranked_room t_sets_weights n_t_sets_weights post (wX0_countFitting_2 t_sets_size t_ranked_room t_sets_weights n_t_sets_weights post n)
/-- KnapsackCore$Core.countFitting()I -/
def wX0_countFitting (t_sets_size t_ranked_room : Int32) (t_sets_weights : Nat → Int32) (n_t_sets_weights : Nat) (post : Int32 → Prop)  : Prop :=
  ∃ n : Nat, wX0_countFitting_2 t_sets_size t_ranked_room t_sets_weights n_t_sets_weights post n (0 : Int32)
theorem kX0_countFitting_0 : Cond.fieldLink RX0 21 "KnapsackCore$Core" "sets" "LKnapsackCore$Sets;" ∈ wsX0_countFitting := (List.mem_cons_of_mem _ (List.mem_append_left _ (List.mem_append_left _ (List.mem_append_left _ (List.mem_of_getElem? (i := 0) rfl)))))
theorem kX0_countFitting_1 : Cond.fieldLink RX0 67 "KnapsackCore$Sets" "size" "I" ∈ wsX0_countFitting := (List.mem_cons_of_mem _ (List.mem_append_left _ (List.mem_append_left _ (List.mem_append_left _ (List.mem_of_getElem? (i := 1) rfl)))))
theorem kX0_countFitting_2 : Cond.fieldLink RX0 107 "KnapsackCore$Sets" "weights" "[I" ∈ wsX0_countFitting := (List.mem_cons_of_mem _ (List.mem_append_left _ (List.mem_append_left _ (List.mem_append_left _ (List.mem_of_getElem? (i := 2) rfl)))))
theorem kX0_countFitting_3 : Cond.fieldLink RX0 12 "KnapsackCore$Core" "ranked" "LKnapsackCore$Ranked;" ∈ wsX0_countFitting := (List.mem_cons_of_mem _ (List.mem_append_left _ (List.mem_append_left _ (List.mem_append_left _ (List.mem_of_getElem? (i := 3) rfl)))))
theorem kX0_countFitting_4 : Cond.fieldLink RX0 108 "KnapsackCore$Ranked" "room" "I" ∈ wsX0_countFitting := (List.mem_cons_of_mem _ (List.mem_append_left _ (List.mem_append_left _ (List.mem_append_left _ (List.mem_of_getElem? (i := 4) rfl)))))
theorem iX0_countFitting_X0 : ∀ w ∈ u_ws RX0 TX0 10, w ∈ wsX0_countFitting := fun w h => (List.mem_cons_of_mem _ (List.mem_append_left _ (List.mem_append_left _ (List.mem_append_right _ h))))
theorem iX0_countFitting_X4 : ∀ w ∈ u_ws RX4 TX4 4, w ∈ wsX0_countFitting := fun w h => (List.mem_cons_of_mem _ (List.mem_append_left _ (List.mem_append_right _ h)))
theorem iX0_countFitting_X2 : ∀ w ∈ u_ws RX2 TX2 9, w ∈ wsX0_countFitting := fun w h => (List.mem_cons_of_mem _ (List.mem_append_right _ h))
set_option maxHeartbeats 4000000 in
set_option maxRecDepth 100000 in
theorem mtX0_countFitting (l : Launch) (ad : (Nat → Nat) × (Nat → Nat)) (dC : Nat → ClassId) (dI : Nat → Nat → Nat) (cy : Nat → ClassId) (a_t a_t_ranked a_t_sets a_t_spare a_t_sets_weights a_t_sets_profits a_t_sets_bits a_t_ranked_itemAt a_t_ranked_placeOf a_t_ranked_weights a_t_ranked_profits : Nat) (sz : Nat) (t_most t_from t_to t_steps t_bestWeight t_bestProfit : Int32) (t_bestBits : Int64) (t_sets_size t_ranked_items t_ranked_room t_ranked_breakPlace t_ranked_breakWeight t_ranked_breakProfit : Int32) (t_sets_weights : Nat → Int32) (n_t_sets_weights : Nat) {post : Int32 → Prop} (h : wX0_countFitting t_sets_size t_ranked_room t_sets_weights n_t_sets_weights post) : xMi l yX0_countFitting wsX0_countFitting ({ frames := 0, cells := 0, slots := 0, locals := 0 } : Room) ad (dC, dI) vwCl (xT cy) [.ref a_t] [(a_t, .inr (0, [.ref a_t_ranked, .ref a_t_sets, .ref a_t_spare, .int t_most, .int t_from, .int t_to, .int t_steps, .int t_bestWeight, .int t_bestProfit, .long t_bestBits])), (a_t_sets, .inr (4, [.ref a_t_sets_weights, .ref a_t_sets_profits, .ref a_t_sets_bits, .int t_sets_size])), (a_t_ranked, .inr (2, [.ref a_t_ranked_itemAt, .ref a_t_ranked_placeOf, .ref a_t_ranked_weights, .ref a_t_ranked_profits, .int t_ranked_items, .int t_ranked_room, .int t_ranked_breakPlace, .int t_ranked_breakWeight, .int t_ranked_breakProfit])), (a_t_sets_weights, .inl (cy 0, n_t_sets_weights, .inl t_sets_weights))] sz (fun (r : Int32) (_ : Unit) => post r) (fun (_ : Unit) w => w = [(a_t, .inr (0, [.ref a_t_ranked, .ref a_t_sets, .ref a_t_spare, .int t_most, .int t_from, .int t_to, .int t_steps, .int t_bestWeight, .int t_bestProfit, .long t_bestBits])), (a_t_sets, .inr (4, [.ref a_t_sets_weights, .ref a_t_sets_profits, .ref a_t_sets_bits, .int t_sets_size])), (a_t_ranked, .inr (2, [.ref a_t_ranked_itemAt, .ref a_t_ranked_placeOf, .ref a_t_ranked_weights, .ref a_t_ranked_profits, .int t_ranked_items, .int t_ranked_room, .int t_ranked_breakPlace, .int t_ranked_breakWeight, .int t_ranked_breakProfit])), (a_t_sets_weights, .inl (cy 0, n_t_sets_weights, .inl t_sets_weights))]) 0 0 := by
  unfold xMi
  refine Met.ofW (cc := cX0_countFitting) (maxL := 2) (ret := (some .int)) (by decide +kernel) rfl ?_
  intro p e s m args below meth c s₁ B hml hv
  obtain ⟨rfl, hsz, hP, hK, hD0, hE⟩ := hv
  have hx := B.exec
  have hb := B.bytes
  have hr := B.returns
  have hts := atoms_spec (ws := wsX0_countFitting) B.pre
  have hown : s.vm.findClass RX0 = some m.cls := findClass_of_methodNamed B.named
  have hlocks := B.notSynchronized
  subst hsz
  have hD := hD0.self (sz := s.heap.size)
  generalize hAe : va_A [(a_t, .inr (0, [.ref a_t_ranked, .ref a_t_sets, .ref a_t_spare, .int t_most, .int t_from, .int t_to, .int t_steps, .int t_bestWeight, .int t_bestProfit, .long t_bestBits])), (a_t_sets, .inr (4, [.ref a_t_sets_weights, .ref a_t_sets_profits, .ref a_t_sets_bits, .int t_sets_size])), (a_t_ranked, .inr (2, [.ref a_t_ranked_itemAt, .ref a_t_ranked_placeOf, .ref a_t_ranked_weights, .ref a_t_ranked_profits, .int t_ranked_items, .int t_ranked_room, .int t_ranked_breakPlace, .int t_ranked_breakWeight, .int t_ranked_breakProfit])), (a_t_sets_weights, .inl (cy 0, n_t_sets_weights, .inl t_sets_weights))] s.heap.size = A at hD hE ⊢
  have hA : ∀ q : Nat, s.heap.size ≤ q → A q := fun q h => by rw [← hAe]; exact Or.inr h
  have hS : va_S A s.heap s.heap [] := va_S.rf
  have hl := lv_entry ([.ref a_t]) (n := 2) (Nat.le_of_ble_eq_true rfl)
  rw [lg_entry_eq]
  generalize (lg_sl ([.ref a_t]) ++ List.replicate (2 - (lg_sl ([.ref a_t])).length) Slot.unset).toArray = ls at hl ⊢
  have hl : lv_has ls 2 [(0, .ref a_t)] := hl
  generalize hQ : MQ below _ _ s _ _ _ = Q
  generalize ([.ref a_t] : List Value).toArray = args at hts hQ ⊢
  clear B hD0 hAe
  have L2 : ∀ n : Nat, ∀ (v1 : Int32), wX0_countFitting_2 t_sets_size t_ranked_room t_sets_weights n_t_sets_weights post n v1 → ∀ (H : Heap) (locs : List Loc) (ls : Array Slot), va_P (dC, dI) vwCl [(a_t, .inr (0, [.ref a_t_ranked, .ref a_t_sets, .ref a_t_spare, .int t_most, .int t_from, .int t_to, .int t_steps, .int t_bestWeight, .int t_bestProfit, .long t_bestBits])), (a_t_sets, .inr (4, [.ref a_t_sets_weights, .ref a_t_sets_profits, .ref a_t_sets_bits, .int t_sets_size])), (a_t_ranked, .inr (2, [.ref a_t_ranked_itemAt, .ref a_t_ranked_placeOf, .ref a_t_ranked_weights, .ref a_t_ranked_profits, .int t_ranked_items, .int t_ranked_room, .int t_ranked_breakPlace, .int t_ranked_breakWeight, .int t_ranked_breakProfit])), (a_t_sets_weights, .inl (cy 0, n_t_sets_weights, .inl t_sets_weights))] H → va_D A [(a_t, .inr (0, [.ref a_t_ranked, .ref a_t_sets, .ref a_t_spare, .int t_most, .int t_from, .int t_to, .int t_steps, .int t_bestWeight, .int t_bestProfit, .long t_bestBits])), (a_t_sets, .inr (4, [.ref a_t_sets_weights, .ref a_t_sets_profits, .ref a_t_sets_bits, .int t_sets_size])), (a_t_ranked, .inr (2, [.ref a_t_ranked_itemAt, .ref a_t_ranked_placeOf, .ref a_t_ranked_weights, .ref a_t_ranked_profits, .int t_ranked_items, .int t_ranked_room, .int t_ranked_breakPlace, .int t_ranked_breakWeight, .int t_ranked_breakProfit])), (a_t_sets_weights, .inl (cy 0, n_t_sets_weights, .inl t_sets_weights))] → va_S A s.heap H locs → lv_has ls 2 [(0, .ref a_t), (1, .int v1)] → W p l e (headSpec wsX0_countFitting ({ frames := 0, cells := 0, slots := 0, locals := 0 } : Room)).room s m args below meth c H locs 0 0 Q (F0 m 2 ls []) := by
    intro n
    induction n with
    | zero => intro v1 h; exact False.elim h
    | succ n2 ih2 =>
      intro v1 h H locs ls hP hD hS hl
      replace h : wX0_countFitting_2_b t_sets_size t_ranked_room t_sets_weights n_t_sets_weights post (wX0_countFitting_2 t_sets_size t_ranked_room t_sets_weights n_t_sets_weights post n2) v1 := h
      refine lv_iload_n hx hb dX0_countFitting_2 rfl (lv_at hl 1 rfl) ?_
      refine lv_aload_n hx hb dX0_countFitting_3 rfl (lv_at hl 0 rfl) ?_
      refine va_get (D := (dC, dI)) (ci := 0) (v := .ref a_t_sets) (C := RX0) (T := TX0) (N := 10) hx hb hts iX0_countFitting_X0 hown hK hP 0 rfl rfl 1 (Nat.le_of_ble_eq_true rfl) (hts _ kX0_countFitting_0) (fun _ h9 => h9) rfl dX0_countFitting_4 ?_
      refine va_get (D := (dC, dI)) (ci := 4) (v := .int t_sets_size) (C := RX4) (T := TX4) (N := 4) hx hb hts iX0_countFitting_X4 hown hK hP 1 rfl rfl 3 (Nat.le_of_ble_eq_true rfl) (hts _ kX0_countFitting_1) (fun _ h9 => h9) rfl dX0_countFitting_7 ?_
      refine lv_icmp_ge (tgt := 38) hx hb dX0_countFitting_10 (by decide) (fun c_1 => ?_) (fun c_1 => ?_)
      · replace h := h.1 c_1
        refine lv_iload_n hx hb dX0_countFitting_38 rfl (lv_at hl 1 rfl) ?_
        rw [← hQ]
        exact W.iret (v := v1) hx hb hr (fun t ht hW => ⟨⟨v1, (), rfl, h, x_end (w1 := [(a_t, .inr (0, [.ref a_t_ranked, .ref a_t_sets, .ref a_t_spare, .int t_most, .int t_from, .int t_to, .int t_steps, .int t_bestWeight, .int t_bestProfit, .long t_bestBits])), (a_t_sets, .inr (4, [.ref a_t_sets_weights, .ref a_t_sets_profits, .ref a_t_sets_bits, .int t_sets_size])), (a_t_ranked, .inr (2, [.ref a_t_ranked_itemAt, .ref a_t_ranked_placeOf, .ref a_t_ranked_weights, .ref a_t_ranked_profits, .int t_ranked_items, .int t_ranked_room, .int t_ranked_breakPlace, .int t_ranked_breakWeight, .int t_ranked_breakProfit])), (a_t_sets_weights, .inl (cy 0, n_t_sets_weights, .inl t_sets_weights))]) hP hD hK [0, 1, 2, 3] rfl (by decide) rfl ht hW⟩, hS.F ht⟩) hS.2.2 dX0_countFitting_39
      · replace h := h.2 c_1
        refine lv_aload_n hx hb dX0_countFitting_13 rfl (lv_at hl 0 rfl) ?_
        refine va_get (D := (dC, dI)) (ci := 0) (v := .ref a_t_sets) (C := RX0) (T := TX0) (N := 10) hx hb hts iX0_countFitting_X0 hown hK hP 0 rfl rfl 1 (Nat.le_of_ble_eq_true rfl) (hts _ kX0_countFitting_0) (fun _ h9 => h9) rfl dX0_countFitting_14 ?_
        refine va_get (D := (dC, dI)) (ci := 4) (v := .ref a_t_sets_weights) (C := RX4) (T := TX4) (N := 4) hx hb hts iX0_countFitting_X4 hown hK hP 1 rfl rfl 0 (Nat.le_of_ble_eq_true rfl) (hts _ kX0_countFitting_2) (fun _ h9 => h9) rfl dX0_countFitting_17 ?_
        refine lv_iload_n hx hb dX0_countFitting_20 rfl (lv_at hl 1 rfl) ?_
        refine va_iald (D := (dC, dI)) hx hb hK hP 3 0 rfl rfl h.1 dX0_countFitting_21 ?_
        replace h := h.2
        refine lv_aload_n hx hb dX0_countFitting_22 rfl (lv_at hl 0 rfl) ?_
        refine va_get (D := (dC, dI)) (ci := 0) (v := .ref a_t_ranked) (C := RX0) (T := TX0) (N := 10) hx hb hts iX0_countFitting_X0 hown hK hP 0 rfl rfl 0 (Nat.le_of_ble_eq_true rfl) (hts _ kX0_countFitting_3) (fun _ h9 => h9) rfl dX0_countFitting_23 ?_
        refine va_get (D := (dC, dI)) (ci := 2) (v := .int t_ranked_room) (C := RX2) (T := TX2) (N := 9) hx hb hts iX0_countFitting_X2 hown hK hP 2 rfl rfl 5 (Nat.le_of_ble_eq_true rfl) (hts _ kX0_countFitting_4) (fun _ h9 => h9) rfl dX0_countFitting_26 ?_
        refine lv_icmp_gt (tgt := 38) hx hb dX0_countFitting_29 (by decide) (fun c_2 => ?_) (fun c_2 => ?_)
        · replace h := h.1 c_2
          refine lv_iload_n hx hb dX0_countFitting_38 rfl (lv_at hl 1 rfl) ?_
          rw [← hQ]
          exact W.iret (v := v1) hx hb hr (fun t ht hW => ⟨⟨v1, (), rfl, h, x_end (w1 := [(a_t, .inr (0, [.ref a_t_ranked, .ref a_t_sets, .ref a_t_spare, .int t_most, .int t_from, .int t_to, .int t_steps, .int t_bestWeight, .int t_bestProfit, .long t_bestBits])), (a_t_sets, .inr (4, [.ref a_t_sets_weights, .ref a_t_sets_profits, .ref a_t_sets_bits, .int t_sets_size])), (a_t_ranked, .inr (2, [.ref a_t_ranked_itemAt, .ref a_t_ranked_placeOf, .ref a_t_ranked_weights, .ref a_t_ranked_profits, .int t_ranked_items, .int t_ranked_room, .int t_ranked_breakPlace, .int t_ranked_breakWeight, .int t_ranked_breakProfit])), (a_t_sets_weights, .inl (cy 0, n_t_sets_weights, .inl t_sets_weights))]) hP hD hK [0, 1, 2, 3] rfl (by decide) rfl ht hW⟩, hS.F ht⟩) hS.2.2 dX0_countFitting_39
        · replace h := h.2 c_2
          refine lv_iinc (v := (v1 + (1 : Int32))) (lv' := [(1, .int (v1 + (1 : Int32))), (0, .ref a_t)]) hx hb dX0_countFitting_32 hl (k := 1) rfl rfl (by decide) rfl (fun ls hl => ?_)
          refine lv_goto (tgt := 2) hx hb dX0_countFitting_35 (by decide) ?_
          exact ih2 (v1 + (1 : Int32)) h _ _ _ (x_sub hP [0, 1, 2, 3] rfl) (hD.sub [0, 1, 2, 3] (by decide) rfl) hS (lv_sub hl [1, 0] rfl)
  refine lv_iconst (v := 0) hx hb dX0_countFitting_0 (by decide) ?_
  refine lv_istore_n (lv' := [(1, .int (0 : Int32)), (0, .ref a_t)]) hx hb dX0_countFitting_1 rfl hl (by decide) rfl (fun ls hl => ?_)
  obtain ⟨n9, h⟩ := h
  exact L2 n9 (0 : Int32) h _ _ _ (x_sub hP [0, 1, 2, 3] rfl) (hD.sub [0, 1, 2, 3] (by decide) rfl) hS (lv_sub hl [1, 0] rfl)

/-- KnapsackCore$Sets.move(II)V -/
def wX4_move (n_t_weights n_t_profits n_t_bits : Nat) (post : (Nat → Int32) → (Nat → Int32) → (Nat → Int64) → Prop) (t_weights t_profits : Nat → Int32) (t_bits : Nat → Int64) (v1 v2 : Int32) : Prop :=
  vp_in v1 n_t_weights ∧ vp_in v2 n_t_weights ∧ vp_in v1 n_t_profits ∧ vp_in v2 n_t_profits ∧ vp_in v1 n_t_bits ∧ vp_in v2 n_t_bits ∧ post (upd t_weights (v2).toNatClampNeg (t_weights (v1).toNatClampNeg)) (upd t_profits (v2).toNatClampNeg (t_profits (v1).toNatClampNeg)) (vp_updL t_bits (v2).toNatClampNeg (t_bits (v1).toNatClampNeg))
theorem kX4_move_0 : Cond.fieldLink RX4 9 "KnapsackCore$Sets" "weights" "[I" ∈ wsX4_move := (List.mem_cons_of_mem _ (List.mem_append_left _ (List.mem_of_getElem? (i := 0) rfl)))
theorem kX4_move_1 : Cond.fieldLink RX4 13 "KnapsackCore$Sets" "profits" "[I" ∈ wsX4_move := (List.mem_cons_of_mem _ (List.mem_append_left _ (List.mem_of_getElem? (i := 1) rfl)))
theorem kX4_move_2 : Cond.fieldLink RX4 16 "KnapsackCore$Sets" "bits" "[J" ∈ wsX4_move := (List.mem_cons_of_mem _ (List.mem_append_left _ (List.mem_of_getElem? (i := 2) rfl)))
theorem iX4_move_X4 : ∀ w ∈ u_ws RX4 TX4 4, w ∈ wsX4_move := fun w h => (List.mem_cons_of_mem _ (List.mem_append_right _ h))
set_option maxHeartbeats 4000000 in
set_option maxRecDepth 100000 in
theorem mtX4_move (l : Launch) (ad : (Nat → Nat) × (Nat → Nat)) (dC : Nat → ClassId) (dI : Nat → Nat → Nat) (cy : Nat → ClassId) (a_t a_t_weights a_t_profits a_t_bits : Nat) (sz : Nat) (t_size : Int32) (t_weights : Nat → Int32) (n_t_weights : Nat) (t_profits : Nat → Int32) (n_t_profits : Nat) (t_bits : Nat → Int64) (n_t_bits : Nat) (v1 v2 : Int32) {post : (Nat → Int32) → (Nat → Int32) → (Nat → Int64) → Prop} (h : wX4_move n_t_weights n_t_profits n_t_bits post t_weights t_profits t_bits v1 v2) : xMv l yX4_move wsX4_move ({ frames := 0, cells := 0, slots := 0, locals := 0 } : Room) ad (dC, dI) vwCl (xT cy) [.ref a_t, .int v1, .int v2] [(a_t, .inr (4, [.ref a_t_weights, .ref a_t_profits, .ref a_t_bits, .int t_size])), (a_t_weights, .inl (cy 0, n_t_weights, .inl t_weights)), (a_t_profits, .inl (cy 0, n_t_profits, .inl t_profits)), (a_t_bits, .inl (cy 1, n_t_bits, .inr (.inl t_bits)))] sz (fun (u : (Nat → Int32) × (Nat → Int32) × (Nat → Int64)) => post u.1 u.2.1 u.2.2) (fun (u : (Nat → Int32) × (Nat → Int32) × (Nat → Int64)) w => w = [(a_t, .inr (4, [.ref a_t_weights, .ref a_t_profits, .ref a_t_bits, .int t_size])), (a_t_weights, .inl (cy 0, n_t_weights, .inl u.1)), (a_t_profits, .inl (cy 0, n_t_profits, .inl u.2.1)), (a_t_bits, .inl (cy 1, n_t_bits, .inr (.inl u.2.2)))]) 0 0 := by
  unfold xMv
  refine Met.ofW (cc := cX4_move) (maxL := 3) (ret := none) (by decide +kernel) rfl ?_
  intro p e s m args below meth c s₁ B hml hv
  obtain ⟨rfl, hsz, hP, hK, hD0, hE⟩ := hv
  have hx := B.exec
  have hb := B.bytes
  have hr := B.returns
  have hts := atoms_spec (ws := wsX4_move) B.pre
  have hown : s.vm.findClass RX4 = some m.cls := findClass_of_methodNamed B.named
  have hlocks := B.notSynchronized
  subst hsz
  have hD := hD0.self (sz := s.heap.size)
  generalize hAe : va_A [(a_t, .inr (4, [.ref a_t_weights, .ref a_t_profits, .ref a_t_bits, .int t_size])), (a_t_weights, .inl (cy 0, n_t_weights, .inl t_weights)), (a_t_profits, .inl (cy 0, n_t_profits, .inl t_profits)), (a_t_bits, .inl (cy 1, n_t_bits, .inr (.inl t_bits)))] s.heap.size = A at hD hE ⊢
  have hA : ∀ q : Nat, s.heap.size ≤ q → A q := fun q h => by rw [← hAe]; exact Or.inr h
  have hS : va_S A s.heap s.heap [] := va_S.rf
  have hl := lv_entry ([.ref a_t, .int v1, .int v2]) (n := 3) (Nat.le_of_ble_eq_true rfl)
  rw [lg_entry_eq]
  generalize (lg_sl ([.ref a_t, .int v1, .int v2]) ++ List.replicate (3 - (lg_sl ([.ref a_t, .int v1, .int v2])).length) Slot.unset).toArray = ls at hl ⊢
  have hl : lv_has ls 3 [(0, .ref a_t), (1, .int v1), (2, .int v2)] := hl
  generalize hQ : MQ below _ _ s _ _ _ = Q
  generalize ([.ref a_t, .int v1, .int v2] : List Value).toArray = args at hts hQ ⊢
  clear B hD0 hAe
  refine lv_aload_n hx hb dX4_move_0 rfl (lv_at hl 0 rfl) ?_
  refine va_get (D := (dC, dI)) (ci := 4) (v := .ref a_t_weights) (C := RX4) (T := TX4) (N := 4) hx hb hts iX4_move_X4 hown hK hP 0 rfl rfl 0 (Nat.le_of_ble_eq_true rfl) (hts _ kX4_move_0) (fun _ h9 => h9) rfl dX4_move_1 ?_
  refine lv_iload_n hx hb dX4_move_4 rfl (lv_at hl 2 rfl) ?_
  refine lv_aload_n hx hb dX4_move_5 rfl (lv_at hl 0 rfl) ?_
  refine va_get (D := (dC, dI)) (ci := 4) (v := .ref a_t_weights) (C := RX4) (T := TX4) (N := 4) hx hb hts iX4_move_X4 hown hK hP 0 rfl rfl 0 (Nat.le_of_ble_eq_true rfl) (hts _ kX4_move_0) (fun _ h9 => h9) rfl dX4_move_6 ?_
  refine lv_iload_n hx hb dX4_move_9 rfl (lv_at hl 1 rfl) ?_
  refine va_iald (D := (dC, dI)) hx hb hK hP 1 0 rfl rfl h.1 dX4_move_10 ?_
  replace h := h.2
  refine va_iast (D := (dC, dI)) hx hb hK hP hD hS 1 0 rfl rfl h.1 dX4_move_11 (fun H locs hP hD hS => ?_)
  replace h := h.2
  have hP : va_P (dC, dI) vwCl [(a_t, .inr (4, [.ref a_t_weights, .ref a_t_profits, .ref a_t_bits, .int t_size])), (a_t_weights, .inl (cy 0, n_t_weights, .inl (upd t_weights (v2).toNatClampNeg (t_weights (v1).toNatClampNeg)))), (a_t_profits, .inl (cy 0, n_t_profits, .inl t_profits)), (a_t_bits, .inl (cy 1, n_t_bits, .inr (.inl t_bits)))] H := hP
  have hD : va_D A [(a_t, .inr (4, [.ref a_t_weights, .ref a_t_profits, .ref a_t_bits, .int t_size])), (a_t_weights, .inl (cy 0, n_t_weights, .inl (upd t_weights (v2).toNatClampNeg (t_weights (v1).toNatClampNeg)))), (a_t_profits, .inl (cy 0, n_t_profits, .inl t_profits)), (a_t_bits, .inl (cy 1, n_t_bits, .inr (.inl t_bits)))] := hD
  refine lv_aload_n hx hb dX4_move_12 rfl (lv_at hl 0 rfl) ?_
  refine va_get (D := (dC, dI)) (ci := 4) (v := .ref a_t_profits) (C := RX4) (T := TX4) (N := 4) hx hb hts iX4_move_X4 hown hK hP 0 rfl rfl 1 (Nat.le_of_ble_eq_true rfl) (hts _ kX4_move_1) (fun _ h9 => h9) rfl dX4_move_13 ?_
  refine lv_iload_n hx hb dX4_move_16 rfl (lv_at hl 2 rfl) ?_
  refine lv_aload_n hx hb dX4_move_17 rfl (lv_at hl 0 rfl) ?_
  refine va_get (D := (dC, dI)) (ci := 4) (v := .ref a_t_profits) (C := RX4) (T := TX4) (N := 4) hx hb hts iX4_move_X4 hown hK hP 0 rfl rfl 1 (Nat.le_of_ble_eq_true rfl) (hts _ kX4_move_1) (fun _ h9 => h9) rfl dX4_move_18 ?_
  refine lv_iload_n hx hb dX4_move_21 rfl (lv_at hl 1 rfl) ?_
  refine va_iald (D := (dC, dI)) hx hb hK hP 2 0 rfl rfl h.1 dX4_move_22 ?_
  replace h := h.2
  refine va_iast (D := (dC, dI)) hx hb hK hP hD hS 2 0 rfl rfl h.1 dX4_move_23 (fun H locs hP hD hS => ?_)
  replace h := h.2
  have hP : va_P (dC, dI) vwCl [(a_t, .inr (4, [.ref a_t_weights, .ref a_t_profits, .ref a_t_bits, .int t_size])), (a_t_weights, .inl (cy 0, n_t_weights, .inl (upd t_weights (v2).toNatClampNeg (t_weights (v1).toNatClampNeg)))), (a_t_profits, .inl (cy 0, n_t_profits, .inl (upd t_profits (v2).toNatClampNeg (t_profits (v1).toNatClampNeg)))), (a_t_bits, .inl (cy 1, n_t_bits, .inr (.inl t_bits)))] H := hP
  have hD : va_D A [(a_t, .inr (4, [.ref a_t_weights, .ref a_t_profits, .ref a_t_bits, .int t_size])), (a_t_weights, .inl (cy 0, n_t_weights, .inl (upd t_weights (v2).toNatClampNeg (t_weights (v1).toNatClampNeg)))), (a_t_profits, .inl (cy 0, n_t_profits, .inl (upd t_profits (v2).toNatClampNeg (t_profits (v1).toNatClampNeg)))), (a_t_bits, .inl (cy 1, n_t_bits, .inr (.inl t_bits)))] := hD
  refine lv_aload_n hx hb dX4_move_24 rfl (lv_at hl 0 rfl) ?_
  refine va_get (D := (dC, dI)) (ci := 4) (v := .ref a_t_bits) (C := RX4) (T := TX4) (N := 4) hx hb hts iX4_move_X4 hown hK hP 0 rfl rfl 2 (Nat.le_of_ble_eq_true rfl) (hts _ kX4_move_2) (fun _ h9 => h9) rfl dX4_move_25 ?_
  refine lv_iload_n hx hb dX4_move_28 rfl (lv_at hl 2 rfl) ?_
  refine lv_aload_n hx hb dX4_move_29 rfl (lv_at hl 0 rfl) ?_
  refine va_get (D := (dC, dI)) (ci := 4) (v := .ref a_t_bits) (C := RX4) (T := TX4) (N := 4) hx hb hts iX4_move_X4 hown hK hP 0 rfl rfl 2 (Nat.le_of_ble_eq_true rfl) (hts _ kX4_move_2) (fun _ h9 => h9) rfl dX4_move_30 ?_
  refine lv_iload_n hx hb dX4_move_33 rfl (lv_at hl 1 rfl) ?_
  refine va_lald (D := (dC, dI)) hx hb hK hP 3 1 rfl rfl h.1 dX4_move_34 ?_
  replace h := h.2
  refine va_last (D := (dC, dI)) hx hb hK hP hD hS 3 1 rfl rfl h.1 dX4_move_35 (fun H locs hP hD hS => ?_)
  replace h := h.2
  have hP : va_P (dC, dI) vwCl [(a_t, .inr (4, [.ref a_t_weights, .ref a_t_profits, .ref a_t_bits, .int t_size])), (a_t_weights, .inl (cy 0, n_t_weights, .inl (upd t_weights (v2).toNatClampNeg (t_weights (v1).toNatClampNeg)))), (a_t_profits, .inl (cy 0, n_t_profits, .inl (upd t_profits (v2).toNatClampNeg (t_profits (v1).toNatClampNeg)))), (a_t_bits, .inl (cy 1, n_t_bits, .inr (.inl (vp_updL t_bits (v2).toNatClampNeg (t_bits (v1).toNatClampNeg)))))] H := hP
  have hD : va_D A [(a_t, .inr (4, [.ref a_t_weights, .ref a_t_profits, .ref a_t_bits, .int t_size])), (a_t_weights, .inl (cy 0, n_t_weights, .inl (upd t_weights (v2).toNatClampNeg (t_weights (v1).toNatClampNeg)))), (a_t_profits, .inl (cy 0, n_t_profits, .inl (upd t_profits (v2).toNatClampNeg (t_profits (v1).toNatClampNeg)))), (a_t_bits, .inl (cy 1, n_t_bits, .inr (.inl (vp_updL t_bits (v2).toNatClampNeg (t_bits (v1).toNatClampNeg)))))] := hD
  rw [← hQ]
  exact W.vret hx hb hr (fun t ht hW => ⟨⟨((upd t_weights (v2).toNatClampNeg (t_weights (v1).toNatClampNeg)), (upd t_profits (v2).toNatClampNeg (t_profits (v1).toNatClampNeg)), (vp_updL t_bits (v2).toNatClampNeg (t_bits (v1).toNatClampNeg))), rfl, (by dsimp only; exact h), x_end (w1 := [(a_t, .inr (4, [.ref a_t_weights, .ref a_t_profits, .ref a_t_bits, .int t_size])), (a_t_weights, .inl (cy 0, n_t_weights, .inl (upd t_weights (v2).toNatClampNeg (t_weights (v1).toNatClampNeg)))), (a_t_profits, .inl (cy 0, n_t_profits, .inl (upd t_profits (v2).toNatClampNeg (t_profits (v1).toNatClampNeg)))), (a_t_bits, .inl (cy 1, n_t_bits, .inr (.inl (vp_updL t_bits (v2).toNatClampNeg (t_bits (v1).toNatClampNeg)))))]) hP hD hK [0, 1, 2, 3] rfl (by decide) (by first | exact rfl | (dsimp only; exact rfl)) ht hW⟩, hS.F ht⟩) hS.2.2 dX4_move_36

theorem qX0_boundOf : yX0_boundOf.cls = RX0 ∧ yX0_boundOf.cls ≠ "java/lang/invoke/MethodHandle" ∧ yX0_boundOf.cls ≠ "java/lang/invoke/VarHandle" ∧ (parseMethodDescriptor yX0_boundOf.desc).map (fun d => d.parameters.length) = some 1 := by decide +kernel
theorem qX4_move : yX4_move.cls = RX4 ∧ yX4_move.cls ≠ "java/lang/invoke/MethodHandle" ∧ yX4_move.cls ≠ "java/lang/invoke/VarHandle" ∧ (parseMethodDescriptor yX4_move.desc).map (fun d => d.parameters.length) = some 2 := by decide +kernel
def wX0_dropBoundedAway_41 (t_from t_to t_bestProfit t_ranked_items t_ranked_room : Int32) (n_t_sets_weights n_t_sets_profits : Nat) (t_ranked_weights t_ranked_profits : Nat → Int32) (n_t_sets_bits : Nat) (K4 : Int32 → (Nat → Int32) → (Nat → Int32) → (Nat → Int64) → Int32 → Int32 → Prop) (post : Int32 → (Nat → Int32) → (Nat → Int32) → (Nat → Int64) → Prop) (t_sets_size : Int32) (t_sets_weights t_sets_profits : Nat → Int32) (t_sets_bits : Nat → Int64) (v1 v2 : Int32) : Prop :=
  K4 t_sets_size t_sets_weights t_sets_profits t_sets_bits v1 (v2 + (1 : Int32))
def wX0_dropBoundedAway_38 (t_from t_to t_bestProfit t_ranked_items t_ranked_room : Int32) (n_t_sets_weights n_t_sets_profits : Nat) (t_ranked_weights t_ranked_profits : Nat → Int32) (n_t_sets_bits : Nat) (K4 : Int32 → (Nat → Int32) → (Nat → Int32) → (Nat → Int64) → Int32 → Int32 → Prop) (post : Int32 → (Nat → Int32) → (Nat → Int32) → (Nat → Int64) → Prop) (t_sets_size : Int32) (t_sets_weights t_sets_profits : Nat → Int32) (t_sets_bits : Nat → Int64) (v1 v2 : Int32) : Prop :=
  wX0_dropBoundedAway_41 t_from t_to t_bestProfit t_ranked_items t_ranked_room n_t_sets_weights n_t_sets_profits t_ranked_weights t_ranked_profits n_t_sets_bits K4 post t_sets_size t_sets_weights t_sets_profits t_sets_bits (v1 + (1 : Int32)) v2
def wX0_dropBoundedAway_20 (t_from t_to t_bestProfit t_ranked_items t_ranked_room : Int32) (n_t_sets_weights n_t_sets_profits : Nat) (t_ranked_weights t_ranked_profits : Nat → Int32) (n_t_sets_bits : Nat) (K4 : Int32 → (Nat → Int32) → (Nat → Int32) → (Nat → Int64) → Int32 → Int32 → Prop) (post : Int32 → (Nat → Int32) → (Nat → Int32) → (Nat → Int64) → Prop) (t_sets_size : Int32) (t_sets_weights t_sets_profits : Nat → Int32) (t_sets_bits : Nat → Int64) (v1 v2 : Int32) (k0 : Int64) : Prop :=
  (k0 ≤ (t_bestProfit).toInt64 → wX0_dropBoundedAway_41 t_from t_to t_bestProfit t_ranked_items t_ranked_room n_t_sets_weights n_t_sets_profits t_ranked_weights t_ranked_profits n_t_sets_bits K4 post t_sets_size t_sets_weights t_sets_profits t_sets_bits v1 v2) ∧ (¬ k0 ≤ (t_bestProfit).toInt64 → wX4_move n_t_sets_weights n_t_sets_profits n_t_sets_bits (fun m35_0 m35_1 m35_2 => wX0_dropBoundedAway_38 t_from t_to t_bestProfit t_ranked_items t_ranked_room n_t_sets_weights n_t_sets_profits t_ranked_weights t_ranked_profits n_t_sets_bits K4 post t_sets_size m35_0 m35_1 m35_2 v1 v2) t_sets_weights t_sets_profits t_sets_bits v2 v1)
def wX0_dropBoundedAway_4_b (t_from t_to t_bestProfit t_ranked_items t_ranked_room : Int32) (n_t_sets_weights n_t_sets_profits : Nat) (t_ranked_weights t_ranked_profits : Nat → Int32) (n_t_sets_bits : Nat) (post : Int32 → (Nat → Int32) → (Nat → Int32) → (Nat → Int64) → Prop) (K4 : Int32 → (Nat → Int32) → (Nat → Int32) → (Nat → Int64) → Int32 → Int32 → Prop) (t_sets_size : Int32) (t_sets_weights t_sets_profits : Nat → Int32) (t_sets_bits : Nat → Int64) (v1 v2 : Int32) : Prop :=
  (t_sets_size ≤ v2 → post v1 t_sets_weights t_sets_profits t_sets_bits) ∧ (¬ t_sets_size ≤ v2 → wX0_boundOf t_from t_to t_ranked_items t_ranked_room t_sets_weights n_t_sets_weights t_sets_profits n_t_sets_profits t_ranked_weights t_ranked_profits (fun r17 => wX0_dropBoundedAway_20 t_from t_to t_bestProfit t_ranked_items t_ranked_room n_t_sets_weights n_t_sets_profits t_ranked_weights t_ranked_profits n_t_sets_bits K4 post t_sets_size t_sets_weights t_sets_profits t_sets_bits v1 v2 r17) v2)
def wX0_dropBoundedAway_4 (t_from t_to t_bestProfit t_ranked_items t_ranked_room : Int32) (n_t_sets_weights n_t_sets_profits : Nat) (t_ranked_weights t_ranked_profits : Nat → Int32) (n_t_sets_bits : Nat) (post : Int32 → (Nat → Int32) → (Nat → Int32) → (Nat → Int64) → Prop) : Nat → Int32 → (Nat → Int32) → (Nat → Int32) → (Nat → Int64) → Int32 → Int32 → Prop
  | 0 => fun _ _ _ _ _ _ => False
  | n + 1 => wX0_dropBoundedAway_4_b t_from t_to t_bestProfit t_ranked_items t_ranked_room n_t_sets_weights n_t_sets_profits t_ranked_weights t_ranked_profits n_t_sets_bits post (wX0_dropBoundedAway_4 t_from t_to t_bestProfit t_ranked_items t_ranked_room n_t_sets_weights n_t_sets_profits t_ranked_weights t_ranked_profits n_t_sets_bits post n)
/-- KnapsackCore$Core.dropBoundedAway()V -/
def wX0_dropBoundedAway (t_from t_to t_bestProfit t_ranked_items t_ranked_room : Int32) (n_t_sets_weights n_t_sets_profits : Nat) (t_ranked_weights t_ranked_profits : Nat → Int32) (n_t_sets_bits : Nat) (post : Int32 → (Nat → Int32) → (Nat → Int32) → (Nat → Int64) → Prop) (t_sets_size : Int32) (t_sets_weights t_sets_profits : Nat → Int32) (t_sets_bits : Nat → Int64) : Prop :=
  ∃ n : Nat, wX0_dropBoundedAway_4 t_from t_to t_bestProfit t_ranked_items t_ranked_room n_t_sets_weights n_t_sets_profits t_ranked_weights t_ranked_profits n_t_sets_bits post n t_sets_size t_sets_weights t_sets_profits t_sets_bits (0 : Int32) (0 : Int32)
theorem kX0_dropBoundedAway_0 : Cond.fieldLink RX0 60 "KnapsackCore$Core" "bestProfit" "I" ∈ wsX0_dropBoundedAway := (List.mem_cons_of_mem _ (List.mem_append_left _ (List.mem_append_left _ (List.mem_append_left _ (List.mem_append_left _ (List.mem_of_getElem? (i := 2) rfl))))))
theorem kX0_dropBoundedAway_1 : Cond.fieldLink RX0 21 "KnapsackCore$Core" "sets" "LKnapsackCore$Sets;" ∈ wsX0_dropBoundedAway := (List.mem_cons_of_mem _ (List.mem_append_left _ (List.mem_append_left _ (List.mem_append_left _ (List.mem_append_left _ (List.mem_of_getElem? (i := 0) rfl))))))
theorem kX0_dropBoundedAway_2 : Cond.fieldLink RX0 67 "KnapsackCore$Sets" "size" "I" ∈ wsX0_dropBoundedAway := (List.mem_cons_of_mem _ (List.mem_append_left _ (List.mem_append_left _ (List.mem_append_left _ (List.mem_append_left _ (List.mem_of_getElem? (i := 1) rfl))))))
theorem iX0_dropBoundedAway_X0 : ∀ w ∈ u_ws RX0 TX0 10, w ∈ wsX0_dropBoundedAway := fun w h => (List.mem_cons_of_mem _ (List.mem_append_left _ (List.mem_append_left _ (List.mem_append_right _ h))))
theorem iX0_dropBoundedAway_X4 : ∀ w ∈ u_ws RX4 TX4 4, w ∈ wsX0_dropBoundedAway := fun w h => (List.mem_cons_of_mem _ (List.mem_append_left _ (List.mem_append_right _ h)))
set_option maxHeartbeats 4000000 in
set_option maxRecDepth 100000 in
theorem mtX0_dropBoundedAway (l : Launch) (ad : (Nat → Nat) × (Nat → Nat)) (dC : Nat → ClassId) (dI : Nat → Nat → Nat) (cy : Nat → ClassId) (a_t a_t_ranked a_t_sets a_t_spare a_t_sets_weights a_t_sets_profits a_t_sets_bits a_t_ranked_itemAt a_t_ranked_placeOf a_t_ranked_weights a_t_ranked_profits : Nat) (sz : Nat) (t_most t_from t_to t_steps t_bestWeight t_bestProfit : Int32) (t_bestBits : Int64) (t_sets_size t_ranked_items t_ranked_room t_ranked_breakPlace t_ranked_breakWeight t_ranked_breakProfit : Int32) (t_sets_weights : Nat → Int32) (n_t_sets_weights : Nat) (t_sets_profits : Nat → Int32) (n_t_sets_profits : Nat) (t_ranked_weights t_ranked_profits : Nat → Int32) (t_sets_bits : Nat → Int64) (n_t_sets_bits : Nat) {post : Int32 → (Nat → Int32) → (Nat → Int32) → (Nat → Int64) → Prop} (h : wX0_dropBoundedAway t_from t_to t_bestProfit t_ranked_items t_ranked_room n_t_sets_weights n_t_sets_profits t_ranked_weights t_ranked_profits n_t_sets_bits post t_sets_size t_sets_weights t_sets_profits t_sets_bits) : xMv l yX0_dropBoundedAway wsX0_dropBoundedAway ({ frames := 3, cells := 0, slots := 0, locals := 71 } : Room) ad (dC, dI) vwCl (xT cy) [.ref a_t] [(a_t, .inr (0, [.ref a_t_ranked, .ref a_t_sets, .ref a_t_spare, .int t_most, .int t_from, .int t_to, .int t_steps, .int t_bestWeight, .int t_bestProfit, .long t_bestBits])), (a_t_sets, .inr (4, [.ref a_t_sets_weights, .ref a_t_sets_profits, .ref a_t_sets_bits, .int t_sets_size])), (a_t_ranked, .inr (2, [.ref a_t_ranked_itemAt, .ref a_t_ranked_placeOf, .ref a_t_ranked_weights, .ref a_t_ranked_profits, .int t_ranked_items, .int t_ranked_room, .int t_ranked_breakPlace, .int t_ranked_breakWeight, .int t_ranked_breakProfit])), (a_t_sets_weights, .inl (cy 0, n_t_sets_weights, .inl t_sets_weights)), (a_t_sets_profits, .inl (cy 0, n_t_sets_profits, .inl t_sets_profits)), (a_t_ranked_weights, .inl (cy 0, 60, .inl t_ranked_weights)), (a_t_ranked_profits, .inl (cy 0, 60, .inl t_ranked_profits)), (a_t_sets_bits, .inl (cy 1, n_t_sets_bits, .inr (.inl t_sets_bits)))] sz (fun (u : Int32 × (Nat → Int32) × (Nat → Int32) × (Nat → Int64)) => post u.1 u.2.1 u.2.2.1 u.2.2.2) (fun (u : Int32 × (Nat → Int32) × (Nat → Int32) × (Nat → Int64)) w => w = [(a_t, .inr (0, [.ref a_t_ranked, .ref a_t_sets, .ref a_t_spare, .int t_most, .int t_from, .int t_to, .int t_steps, .int t_bestWeight, .int t_bestProfit, .long t_bestBits])), (a_t_sets, .inr (4, [.ref a_t_sets_weights, .ref a_t_sets_profits, .ref a_t_sets_bits, .int u.1])), (a_t_ranked, .inr (2, [.ref a_t_ranked_itemAt, .ref a_t_ranked_placeOf, .ref a_t_ranked_weights, .ref a_t_ranked_profits, .int t_ranked_items, .int t_ranked_room, .int t_ranked_breakPlace, .int t_ranked_breakWeight, .int t_ranked_breakProfit])), (a_t_sets_weights, .inl (cy 0, n_t_sets_weights, .inl u.2.1)), (a_t_sets_profits, .inl (cy 0, n_t_sets_profits, .inl u.2.2.1)), (a_t_ranked_weights, .inl (cy 0, 60, .inl t_ranked_weights)), (a_t_ranked_profits, .inl (cy 0, 60, .inl t_ranked_profits)), (a_t_sets_bits, .inl (cy 1, n_t_sets_bits, .inr (.inl u.2.2.2)))]) 0 0 := by
  unfold xMv
  refine Met.ofW (cc := cX0_dropBoundedAway) (maxL := 3) (ret := none) (by decide +kernel) rfl ?_
  intro p e s m args below meth c s₁ B hml hv
  obtain ⟨rfl, hsz, hP, hK, hD0, hE⟩ := hv
  have hx := B.exec
  have hb := B.bytes
  have hr := B.returns
  have hts := atoms_spec (ws := wsX0_dropBoundedAway) B.pre
  have hown : s.vm.findClass RX0 = some m.cls := findClass_of_methodNamed B.named
  have hlocks := B.notSynchronized
  subst hsz
  have hD := hD0.self (sz := s.heap.size)
  generalize hAe : va_A [(a_t, .inr (0, [.ref a_t_ranked, .ref a_t_sets, .ref a_t_spare, .int t_most, .int t_from, .int t_to, .int t_steps, .int t_bestWeight, .int t_bestProfit, .long t_bestBits])), (a_t_sets, .inr (4, [.ref a_t_sets_weights, .ref a_t_sets_profits, .ref a_t_sets_bits, .int t_sets_size])), (a_t_ranked, .inr (2, [.ref a_t_ranked_itemAt, .ref a_t_ranked_placeOf, .ref a_t_ranked_weights, .ref a_t_ranked_profits, .int t_ranked_items, .int t_ranked_room, .int t_ranked_breakPlace, .int t_ranked_breakWeight, .int t_ranked_breakProfit])), (a_t_sets_weights, .inl (cy 0, n_t_sets_weights, .inl t_sets_weights)), (a_t_sets_profits, .inl (cy 0, n_t_sets_profits, .inl t_sets_profits)), (a_t_ranked_weights, .inl (cy 0, 60, .inl t_ranked_weights)), (a_t_ranked_profits, .inl (cy 0, 60, .inl t_ranked_profits)), (a_t_sets_bits, .inl (cy 1, n_t_sets_bits, .inr (.inl t_sets_bits)))] s.heap.size = A at hD hE ⊢
  have hA : ∀ q : Nat, s.heap.size ≤ q → A q := fun q h => by rw [← hAe]; exact Or.inr h
  have hS : va_S A s.heap s.heap [] := va_S.rf
  have hl := lv_entry ([.ref a_t]) (n := 3) (Nat.le_of_ble_eq_true rfl)
  rw [lg_entry_eq]
  generalize (lg_sl ([.ref a_t]) ++ List.replicate (3 - (lg_sl ([.ref a_t])).length) Slot.unset).toArray = ls at hl ⊢
  have hl : lv_has ls 3 [(0, .ref a_t)] := hl
  generalize hQ : MQ below _ _ s _ _ _ = Q
  generalize ([.ref a_t] : List Value).toArray = args at hts hQ ⊢
  clear B hD0 hAe
  have L4 : ∀ n : Nat, ∀ (t_sets_size : Int32) (t_sets_weights t_sets_profits : Nat → Int32) (t_sets_bits : Nat → Int64) (v1 v2 : Int32), wX0_dropBoundedAway_4 t_from t_to t_bestProfit t_ranked_items t_ranked_room n_t_sets_weights n_t_sets_profits t_ranked_weights t_ranked_profits n_t_sets_bits post n t_sets_size t_sets_weights t_sets_profits t_sets_bits v1 v2 → ∀ (H : Heap) (locs : List Loc) (ls : Array Slot), va_P (dC, dI) vwCl [(a_t, .inr (0, [.ref a_t_ranked, .ref a_t_sets, .ref a_t_spare, .int t_most, .int t_from, .int t_to, .int t_steps, .int t_bestWeight, .int t_bestProfit, .long t_bestBits])), (a_t_sets, .inr (4, [.ref a_t_sets_weights, .ref a_t_sets_profits, .ref a_t_sets_bits, .int t_sets_size])), (a_t_ranked, .inr (2, [.ref a_t_ranked_itemAt, .ref a_t_ranked_placeOf, .ref a_t_ranked_weights, .ref a_t_ranked_profits, .int t_ranked_items, .int t_ranked_room, .int t_ranked_breakPlace, .int t_ranked_breakWeight, .int t_ranked_breakProfit])), (a_t_sets_weights, .inl (cy 0, n_t_sets_weights, .inl t_sets_weights)), (a_t_sets_profits, .inl (cy 0, n_t_sets_profits, .inl t_sets_profits)), (a_t_ranked_weights, .inl (cy 0, 60, .inl t_ranked_weights)), (a_t_ranked_profits, .inl (cy 0, 60, .inl t_ranked_profits)), (a_t_sets_bits, .inl (cy 1, n_t_sets_bits, .inr (.inl t_sets_bits)))] H → va_D A [(a_t, .inr (0, [.ref a_t_ranked, .ref a_t_sets, .ref a_t_spare, .int t_most, .int t_from, .int t_to, .int t_steps, .int t_bestWeight, .int t_bestProfit, .long t_bestBits])), (a_t_sets, .inr (4, [.ref a_t_sets_weights, .ref a_t_sets_profits, .ref a_t_sets_bits, .int t_sets_size])), (a_t_ranked, .inr (2, [.ref a_t_ranked_itemAt, .ref a_t_ranked_placeOf, .ref a_t_ranked_weights, .ref a_t_ranked_profits, .int t_ranked_items, .int t_ranked_room, .int t_ranked_breakPlace, .int t_ranked_breakWeight, .int t_ranked_breakProfit])), (a_t_sets_weights, .inl (cy 0, n_t_sets_weights, .inl t_sets_weights)), (a_t_sets_profits, .inl (cy 0, n_t_sets_profits, .inl t_sets_profits)), (a_t_ranked_weights, .inl (cy 0, 60, .inl t_ranked_weights)), (a_t_ranked_profits, .inl (cy 0, 60, .inl t_ranked_profits)), (a_t_sets_bits, .inl (cy 1, n_t_sets_bits, .inr (.inl t_sets_bits)))] → va_S A s.heap H locs → lv_has ls 3 [(0, .ref a_t), (1, .int v1), (2, .int v2)] → W p l e (headSpec wsX0_dropBoundedAway ({ frames := 3, cells := 0, slots := 0, locals := 71 } : Room)).room s m args below meth c H locs 0 0 Q (F0 m 4 ls []) := by
    intro n
    induction n with
    | zero => intro t_sets_size t_sets_weights t_sets_profits t_sets_bits v1 v2 h; exact False.elim h
    | succ n4 ih4 =>
      have C41 : ∀ (t_sets_size : Int32) (t_sets_weights t_sets_profits : Nat → Int32) (t_sets_bits : Nat → Int64) (v1 v2 : Int32), wX0_dropBoundedAway_41 t_from t_to t_bestProfit t_ranked_items t_ranked_room n_t_sets_weights n_t_sets_profits t_ranked_weights t_ranked_profits n_t_sets_bits (wX0_dropBoundedAway_4 t_from t_to t_bestProfit t_ranked_items t_ranked_room n_t_sets_weights n_t_sets_profits t_ranked_weights t_ranked_profits n_t_sets_bits post n4) post t_sets_size t_sets_weights t_sets_profits t_sets_bits v1 v2 → ∀ (H : Heap) (locs : List Loc) (ls : Array Slot), va_P (dC, dI) vwCl [(a_t, .inr (0, [.ref a_t_ranked, .ref a_t_sets, .ref a_t_spare, .int t_most, .int t_from, .int t_to, .int t_steps, .int t_bestWeight, .int t_bestProfit, .long t_bestBits])), (a_t_sets, .inr (4, [.ref a_t_sets_weights, .ref a_t_sets_profits, .ref a_t_sets_bits, .int t_sets_size])), (a_t_ranked, .inr (2, [.ref a_t_ranked_itemAt, .ref a_t_ranked_placeOf, .ref a_t_ranked_weights, .ref a_t_ranked_profits, .int t_ranked_items, .int t_ranked_room, .int t_ranked_breakPlace, .int t_ranked_breakWeight, .int t_ranked_breakProfit])), (a_t_sets_weights, .inl (cy 0, n_t_sets_weights, .inl t_sets_weights)), (a_t_sets_profits, .inl (cy 0, n_t_sets_profits, .inl t_sets_profits)), (a_t_ranked_weights, .inl (cy 0, 60, .inl t_ranked_weights)), (a_t_ranked_profits, .inl (cy 0, 60, .inl t_ranked_profits)), (a_t_sets_bits, .inl (cy 1, n_t_sets_bits, .inr (.inl t_sets_bits)))] H → va_D A [(a_t, .inr (0, [.ref a_t_ranked, .ref a_t_sets, .ref a_t_spare, .int t_most, .int t_from, .int t_to, .int t_steps, .int t_bestWeight, .int t_bestProfit, .long t_bestBits])), (a_t_sets, .inr (4, [.ref a_t_sets_weights, .ref a_t_sets_profits, .ref a_t_sets_bits, .int t_sets_size])), (a_t_ranked, .inr (2, [.ref a_t_ranked_itemAt, .ref a_t_ranked_placeOf, .ref a_t_ranked_weights, .ref a_t_ranked_profits, .int t_ranked_items, .int t_ranked_room, .int t_ranked_breakPlace, .int t_ranked_breakWeight, .int t_ranked_breakProfit])), (a_t_sets_weights, .inl (cy 0, n_t_sets_weights, .inl t_sets_weights)), (a_t_sets_profits, .inl (cy 0, n_t_sets_profits, .inl t_sets_profits)), (a_t_ranked_weights, .inl (cy 0, 60, .inl t_ranked_weights)), (a_t_ranked_profits, .inl (cy 0, 60, .inl t_ranked_profits)), (a_t_sets_bits, .inl (cy 1, n_t_sets_bits, .inr (.inl t_sets_bits)))] → va_S A s.heap H locs → lv_has ls 3 [(0, .ref a_t), (1, .int v1), (2, .int v2)] → W p l e (headSpec wsX0_dropBoundedAway ({ frames := 3, cells := 0, slots := 0, locals := 71 } : Room)).room s m args below meth c H locs 0 0 Q (F0 m 41 ls []) := by
        intro t_sets_size t_sets_weights t_sets_profits t_sets_bits v1 v2 h H locs ls hP hD hS hl
        refine lv_iinc (v := (v2 + (1 : Int32))) (lv' := [(2, .int (v2 + (1 : Int32))), (0, .ref a_t), (1, .int v1)]) hx hb dX0_dropBoundedAway_41 hl (k := 2) rfl rfl (by decide) rfl (fun ls hl => ?_)
        refine lv_goto (tgt := 4) hx hb dX0_dropBoundedAway_44 (by decide) ?_
        exact ih4 t_sets_size t_sets_weights t_sets_profits t_sets_bits v1 (v2 + (1 : Int32)) h _ _ _ (x_sub hP [0, 1, 2, 3, 4, 5, 6, 7] rfl) (hD.sub [0, 1, 2, 3, 4, 5, 6, 7] (by decide) rfl) hS (lv_sub hl [1, 2, 0] rfl)
      intro t_sets_size t_sets_weights t_sets_profits t_sets_bits v1 v2 h H locs ls hP hD hS hl
      replace h : wX0_dropBoundedAway_4_b t_from t_to t_bestProfit t_ranked_items t_ranked_room n_t_sets_weights n_t_sets_profits t_ranked_weights t_ranked_profits n_t_sets_bits post (wX0_dropBoundedAway_4 t_from t_to t_bestProfit t_ranked_items t_ranked_room n_t_sets_weights n_t_sets_profits t_ranked_weights t_ranked_profits n_t_sets_bits post n4) t_sets_size t_sets_weights t_sets_profits t_sets_bits v1 v2 := h
      refine lv_iload_n hx hb dX0_dropBoundedAway_4 rfl (lv_at hl 2 rfl) ?_
      refine lv_aload_n hx hb dX0_dropBoundedAway_5 rfl (lv_at hl 0 rfl) ?_
      refine va_get (D := (dC, dI)) (ci := 0) (v := .ref a_t_sets) (C := RX0) (T := TX0) (N := 10) hx hb hts iX0_dropBoundedAway_X0 hown hK hP 0 rfl rfl 1 (Nat.le_of_ble_eq_true rfl) (hts _ kX0_dropBoundedAway_1) (fun _ h9 => h9) rfl dX0_dropBoundedAway_6 ?_
      refine va_get (D := (dC, dI)) (ci := 4) (v := .int t_sets_size) (C := RX4) (T := TX4) (N := 4) hx hb hts iX0_dropBoundedAway_X4 hown hK hP 1 rfl rfl 3 (Nat.le_of_ble_eq_true rfl) (hts _ kX0_dropBoundedAway_2) (fun _ h9 => h9) rfl dX0_dropBoundedAway_9 ?_
      refine lv_icmp_ge (tgt := 47) hx hb dX0_dropBoundedAway_12 (by decide) (fun c_1 => ?_) (fun c_1 => ?_)
      · replace h := h.1 c_1
        refine lv_aload_n hx hb dX0_dropBoundedAway_47 rfl (lv_at hl 0 rfl) ?_
        refine va_get (D := (dC, dI)) (ci := 0) (v := .ref a_t_sets) (C := RX0) (T := TX0) (N := 10) hx hb hts iX0_dropBoundedAway_X0 hown hK hP 0 rfl rfl 1 (Nat.le_of_ble_eq_true rfl) (hts _ kX0_dropBoundedAway_1) (fun _ h9 => h9) rfl dX0_dropBoundedAway_48 ?_
        refine lv_iload_n hx hb dX0_dropBoundedAway_51 rfl (lv_at hl 1 rfl) ?_
        refine va_put (D := (dC, dI)) (ci := 4) (v := .int v1) (C := RX4) (T := TX4) (N := 4) hx hb hts iX0_dropBoundedAway_X4 tyX4 tyX4_ok nmX4 hown hK hP hD hS 1 rfl rfl 3 (Nat.le_of_ble_eq_true rfl) (hts _ kX0_dropBoundedAway_2) (fun _ h9 => h9) rfl (tyX4_ok 3 (Nat.le_of_ble_eq_true rfl)) rfl rfl (Nat.le_of_ble_eq_true rfl) dX0_dropBoundedAway_52 (fun H locs hP hD hS => ?_)
        have hP : va_P (dC, dI) vwCl [(a_t, .inr (0, [.ref a_t_ranked, .ref a_t_sets, .ref a_t_spare, .int t_most, .int t_from, .int t_to, .int t_steps, .int t_bestWeight, .int t_bestProfit, .long t_bestBits])), (a_t_sets, .inr (4, [.ref a_t_sets_weights, .ref a_t_sets_profits, .ref a_t_sets_bits, .int v1])), (a_t_ranked, .inr (2, [.ref a_t_ranked_itemAt, .ref a_t_ranked_placeOf, .ref a_t_ranked_weights, .ref a_t_ranked_profits, .int t_ranked_items, .int t_ranked_room, .int t_ranked_breakPlace, .int t_ranked_breakWeight, .int t_ranked_breakProfit])), (a_t_sets_weights, .inl (cy 0, n_t_sets_weights, .inl t_sets_weights)), (a_t_sets_profits, .inl (cy 0, n_t_sets_profits, .inl t_sets_profits)), (a_t_ranked_weights, .inl (cy 0, 60, .inl t_ranked_weights)), (a_t_ranked_profits, .inl (cy 0, 60, .inl t_ranked_profits)), (a_t_sets_bits, .inl (cy 1, n_t_sets_bits, .inr (.inl t_sets_bits)))] H := hP
        have hD : va_D A [(a_t, .inr (0, [.ref a_t_ranked, .ref a_t_sets, .ref a_t_spare, .int t_most, .int t_from, .int t_to, .int t_steps, .int t_bestWeight, .int t_bestProfit, .long t_bestBits])), (a_t_sets, .inr (4, [.ref a_t_sets_weights, .ref a_t_sets_profits, .ref a_t_sets_bits, .int v1])), (a_t_ranked, .inr (2, [.ref a_t_ranked_itemAt, .ref a_t_ranked_placeOf, .ref a_t_ranked_weights, .ref a_t_ranked_profits, .int t_ranked_items, .int t_ranked_room, .int t_ranked_breakPlace, .int t_ranked_breakWeight, .int t_ranked_breakProfit])), (a_t_sets_weights, .inl (cy 0, n_t_sets_weights, .inl t_sets_weights)), (a_t_sets_profits, .inl (cy 0, n_t_sets_profits, .inl t_sets_profits)), (a_t_ranked_weights, .inl (cy 0, 60, .inl t_ranked_weights)), (a_t_ranked_profits, .inl (cy 0, 60, .inl t_ranked_profits)), (a_t_sets_bits, .inl (cy 1, n_t_sets_bits, .inr (.inl t_sets_bits)))] := hD
        rw [← hQ]
        exact W.vret hx hb hr (fun t ht hW => ⟨⟨(v1, t_sets_weights, t_sets_profits, t_sets_bits), rfl, (by dsimp only; exact h), x_end (w1 := [(a_t, .inr (0, [.ref a_t_ranked, .ref a_t_sets, .ref a_t_spare, .int t_most, .int t_from, .int t_to, .int t_steps, .int t_bestWeight, .int t_bestProfit, .long t_bestBits])), (a_t_sets, .inr (4, [.ref a_t_sets_weights, .ref a_t_sets_profits, .ref a_t_sets_bits, .int v1])), (a_t_ranked, .inr (2, [.ref a_t_ranked_itemAt, .ref a_t_ranked_placeOf, .ref a_t_ranked_weights, .ref a_t_ranked_profits, .int t_ranked_items, .int t_ranked_room, .int t_ranked_breakPlace, .int t_ranked_breakWeight, .int t_ranked_breakProfit])), (a_t_sets_weights, .inl (cy 0, n_t_sets_weights, .inl t_sets_weights)), (a_t_sets_profits, .inl (cy 0, n_t_sets_profits, .inl t_sets_profits)), (a_t_ranked_weights, .inl (cy 0, 60, .inl t_ranked_weights)), (a_t_ranked_profits, .inl (cy 0, 60, .inl t_ranked_profits)), (a_t_sets_bits, .inl (cy 1, n_t_sets_bits, .inr (.inl t_sets_bits)))]) hP hD hK [0, 1, 2, 3, 4, 5, 6, 7] rfl (by decide) (by first | exact rfl | (dsimp only; exact rfl)) ht hW⟩, hS.F ht⟩) hS.2.2 dX0_dropBoundedAway_55
      · replace h := h.2 c_1
        refine lv_aload_n hx hb dX0_dropBoundedAway_15 rfl (lv_at hl 0 rfl) ?_
        refine lv_iload_n hx hb dX0_dropBoundedAway_16 rfl (lv_at hl 2 rfl) ?_
        refine xVl0 (As := [.int v2]) (rest := []) ⟨hx, hb, hml, hown, hts⟩ (mtX0_boundOf l ad dC dI cy a_t a_t_ranked a_t_sets a_t_spare a_t_ranked_itemAt a_t_ranked_placeOf a_t_ranked_weights a_t_ranked_profits a_t_sets_weights a_t_sets_profits a_t_sets_bits _ t_most t_from t_to t_steps t_bestWeight t_bestProfit t_bestBits t_ranked_items t_ranked_room t_ranked_breakPlace t_ranked_breakWeight t_ranked_breakProfit t_sets_size t_sets_weights n_t_sets_weights t_sets_profits n_t_sets_profits t_ranked_weights t_ranked_profits v2 h) (cwV 1 hts gX0_dropBoundedAway_X0_boundOf rfl rfl rfl qX0_boundOf ⟨Nat.le_of_ble_eq_true rfl, Nat.le_of_ble_eq_true rfl⟩) hE hK hP hD hS hA 0 0 rfl rfl rfl [0, 2, 1, 3, 4, 5, 6] rfl (by decide) rfl hl.1 rfl (Nat.le_of_ble_eq_true rfl) dX0_dropBoundedAway_17 ⟨Nat.le_refl _, Nat.le_refl _⟩ (fun r17 H locs h hP hS => ?_)
        try dsimp only at h
        refine lv_aload_n hx hb dX0_dropBoundedAway_20 rfl (lv_at hl 0 rfl) ?_
        refine va_get (D := (dC, dI)) (ci := 0) (v := .int t_bestProfit) (C := RX0) (T := TX0) (N := 10) hx hb hts iX0_dropBoundedAway_X0 hown hK hP 0 rfl rfl 8 (Nat.le_of_ble_eq_true rfl) (hts _ kX0_dropBoundedAway_0) (fun _ h9 => h9) rfl dX0_dropBoundedAway_21 ?_
        refine lv_i2l hx hb dX0_dropBoundedAway_24 rfl ?_
        refine W.lcmp hx hb dX0_dropBoundedAway_25 ?_
        refine lv_if_le (tgt := 41) hx hb dX0_dropBoundedAway_26 (by decide) (fun c_2 => ?_) (fun c_2 => ?_)
        · replace h := h.1 ((lg_cmp_le _ _).mp c_2)
          exact C41 t_sets_size t_sets_weights t_sets_profits t_sets_bits v1 v2 h _ _ _ (x_sub hP [0, 1, 2, 3, 4, 5, 6, 7] rfl) (hD.sub [0, 1, 2, 3, 4, 5, 6, 7] (by decide) rfl) hS (lv_sub hl [0, 1, 2] rfl)
        · replace h := h.2 (fun z9 => c_2 ((lg_cmp_le _ _).mpr z9))
          refine lv_aload_n hx hb dX0_dropBoundedAway_29 rfl (lv_at hl 0 rfl) ?_
          refine va_get (D := (dC, dI)) (ci := 0) (v := .ref a_t_sets) (C := RX0) (T := TX0) (N := 10) hx hb hts iX0_dropBoundedAway_X0 hown hK hP 0 rfl rfl 1 (Nat.le_of_ble_eq_true rfl) (hts _ kX0_dropBoundedAway_1) (fun _ h9 => h9) rfl dX0_dropBoundedAway_30 ?_
          refine lv_iload_n hx hb dX0_dropBoundedAway_33 rfl (lv_at hl 2 rfl) ?_
          refine lv_iload_n hx hb dX0_dropBoundedAway_34 rfl (lv_at hl 1 rfl) ?_
          refine xVv (wr := [(a_t, .inr (0, [.ref a_t_ranked, .ref a_t_sets, .ref a_t_spare, .int t_most, .int t_from, .int t_to, .int t_steps, .int t_bestWeight, .int t_bestProfit, .long t_bestBits])), (a_t_ranked, .inr (2, [.ref a_t_ranked_itemAt, .ref a_t_ranked_placeOf, .ref a_t_ranked_weights, .ref a_t_ranked_profits, .int t_ranked_items, .int t_ranked_room, .int t_ranked_breakPlace, .int t_ranked_breakWeight, .int t_ranked_breakProfit])), (a_t_ranked_weights, .inl (cy 0, 60, .inl t_ranked_weights)), (a_t_ranked_profits, .inl (cy 0, 60, .inl t_ranked_profits))]) (As := [.int v2, .int v1]) (rest := []) ⟨hx, hb, hml, hown, hts⟩ (mtX4_move l ad dC dI cy a_t_sets a_t_sets_weights a_t_sets_profits a_t_sets_bits _ t_sets_size t_sets_weights n_t_sets_weights t_sets_profits n_t_sets_profits t_sets_bits n_t_sets_bits v2 v1 h) (cwV 2 hts gX0_dropBoundedAway_X4_move rfl rfl rfl qX4_move ⟨Nat.le_of_ble_eq_true rfl, Nat.le_of_ble_eq_true rfl⟩) hE hK hP hD hS hA 4 0 rfl rfl rfl [1, 3, 4, 7] [0, 2, 5, 6] rfl rfl (by decide) (by decide) (by decide) rfl hl.1 rfl (Nat.le_of_ble_eq_true rfl) dX0_dropBoundedAway_35 ⟨Nat.le_refl _, Nat.le_refl _⟩ (fun u w1 H locs h hF hP hD hS => ?_)
          obtain ⟨m35_0, m35_1, m35_2⟩ := u
          try dsimp only at h
          replace hF : w1 = [(a_t_sets, .inr (4, [.ref a_t_sets_weights, .ref a_t_sets_profits, .ref a_t_sets_bits, .int t_sets_size])), (a_t_sets_weights, .inl (cy 0, n_t_sets_weights, .inl m35_0)), (a_t_sets_profits, .inl (cy 0, n_t_sets_profits, .inl m35_1)), (a_t_sets_bits, .inl (cy 1, n_t_sets_bits, .inr (.inl m35_2)))] := hF
          subst hF
          have hP : va_P (dC, dI) vwCl [(a_t, .inr (0, [.ref a_t_ranked, .ref a_t_sets, .ref a_t_spare, .int t_most, .int t_from, .int t_to, .int t_steps, .int t_bestWeight, .int t_bestProfit, .long t_bestBits])), (a_t_ranked, .inr (2, [.ref a_t_ranked_itemAt, .ref a_t_ranked_placeOf, .ref a_t_ranked_weights, .ref a_t_ranked_profits, .int t_ranked_items, .int t_ranked_room, .int t_ranked_breakPlace, .int t_ranked_breakWeight, .int t_ranked_breakProfit])), (a_t_ranked_weights, .inl (cy 0, 60, .inl t_ranked_weights)), (a_t_ranked_profits, .inl (cy 0, 60, .inl t_ranked_profits)), (a_t_sets, .inr (4, [.ref a_t_sets_weights, .ref a_t_sets_profits, .ref a_t_sets_bits, .int t_sets_size])), (a_t_sets_weights, .inl (cy 0, n_t_sets_weights, .inl m35_0)), (a_t_sets_profits, .inl (cy 0, n_t_sets_profits, .inl m35_1)), (a_t_sets_bits, .inl (cy 1, n_t_sets_bits, .inr (.inl m35_2)))] H := hP
          have hD : va_D A [(a_t, .inr (0, [.ref a_t_ranked, .ref a_t_sets, .ref a_t_spare, .int t_most, .int t_from, .int t_to, .int t_steps, .int t_bestWeight, .int t_bestProfit, .long t_bestBits])), (a_t_ranked, .inr (2, [.ref a_t_ranked_itemAt, .ref a_t_ranked_placeOf, .ref a_t_ranked_weights, .ref a_t_ranked_profits, .int t_ranked_items, .int t_ranked_room, .int t_ranked_breakPlace, .int t_ranked_breakWeight, .int t_ranked_breakProfit])), (a_t_ranked_weights, .inl (cy 0, 60, .inl t_ranked_weights)), (a_t_ranked_profits, .inl (cy 0, 60, .inl t_ranked_profits)), (a_t_sets, .inr (4, [.ref a_t_sets_weights, .ref a_t_sets_profits, .ref a_t_sets_bits, .int t_sets_size])), (a_t_sets_weights, .inl (cy 0, n_t_sets_weights, .inl m35_0)), (a_t_sets_profits, .inl (cy 0, n_t_sets_profits, .inl m35_1)), (a_t_sets_bits, .inl (cy 1, n_t_sets_bits, .inr (.inl m35_2)))] := hD
          refine lv_iinc (v := (v1 + (1 : Int32))) (lv' := [(1, .int (v1 + (1 : Int32))), (0, .ref a_t), (2, .int v2)]) hx hb dX0_dropBoundedAway_38 hl (k := 1) rfl rfl (by decide) rfl (fun ls hl => ?_)
          exact C41 t_sets_size m35_0 m35_1 m35_2 (v1 + (1 : Int32)) v2 h _ _ _ (x_sub hP [0, 4, 1, 5, 6, 2, 3, 7] rfl) (hD.sub [0, 4, 1, 5, 6, 2, 3, 7] (by decide) rfl) hS (lv_sub hl [1, 0, 2] rfl)
  refine lv_iconst (v := 0) hx hb dX0_dropBoundedAway_0 (by decide) ?_
  refine lv_istore_n (lv' := [(1, .int (0 : Int32)), (0, .ref a_t)]) hx hb dX0_dropBoundedAway_1 rfl hl (by decide) rfl (fun ls hl => ?_)
  refine lv_iconst (v := 0) hx hb dX0_dropBoundedAway_2 (by decide) ?_
  refine lv_istore_n (lv' := [(2, .int (0 : Int32)), (1, .int (0 : Int32)), (0, .ref a_t)]) hx hb dX0_dropBoundedAway_3 rfl hl (by decide) rfl (fun ls hl => ?_)
  obtain ⟨n9, h⟩ := h
  exact L4 n9 t_sets_size t_sets_weights t_sets_profits t_sets_bits (0 : Int32) (0 : Int32) h _ _ _ (x_sub hP [0, 1, 2, 3, 4, 5, 6, 7] rfl) (hD.sub [0, 1, 2, 3, 4, 5, 6, 7] (by decide) rfl) hS (lv_sub hl [2, 1, 0] rfl)

theorem qX0_countFitting : yX0_countFitting.cls = RX0 ∧ yX0_countFitting.cls ≠ "java/lang/invoke/MethodHandle" ∧ yX0_countFitting.cls ≠ "java/lang/invoke/VarHandle" ∧ (parseMethodDescriptor yX0_countFitting.desc).map (fun d => d.parameters.length) = some 0 := by decide +kernel
def wX0_findBest_4 (t_sets_size t_ranked_room : Int32) (t_sets_weights : Nat → Int32) (n_t_sets_weights : Nat) (t_sets_profits : Nat → Int32) (n_t_sets_profits : Nat) (t_sets_bits : Nat → Int64) (n_t_sets_bits : Nat) (post : Int32 → Int32 → Int64 → Prop) (t_bestWeight t_bestProfit : Int32) (t_bestBits : Int64) (k0 : Int32) : Prop :=
  ((k0 - (1 : Int32)) < (0 : Int32) → post t_bestWeight t_bestProfit t_bestBits) ∧ (¬ (k0 - (1 : Int32)) < (0 : Int32) → vp_in (k0 - (1 : Int32)) n_t_sets_profits ∧ ((t_sets_profits ((k0 - (1 : Int32))).toNatClampNeg) ≤ t_bestProfit → post t_bestWeight t_bestProfit t_bestBits) ∧ (¬ (t_sets_profits ((k0 - (1 : Int32))).toNatClampNeg) ≤ t_bestProfit → vp_in (k0 - (1 : Int32)) n_t_sets_weights ∧ vp_in (k0 - (1 : Int32)) n_t_sets_profits ∧ vp_in (k0 - (1 : Int32)) n_t_sets_bits ∧ post (t_sets_weights ((k0 - (1 : Int32))).toNatClampNeg) (t_sets_profits ((k0 - (1 : Int32))).toNatClampNeg) (t_sets_bits ((k0 - (1 : Int32))).toNatClampNeg)))
/-- KnapsackCore$Core.findBest()V -/
def wX0_findBest (t_sets_size t_ranked_room : Int32) (t_sets_weights : Nat → Int32) (n_t_sets_weights : Nat) (t_sets_profits : Nat → Int32) (n_t_sets_profits : Nat) (t_sets_bits : Nat → Int64) (n_t_sets_bits : Nat) (post : Int32 → Int32 → Int64 → Prop) (t_bestWeight t_bestProfit : Int32) (t_bestBits : Int64) : Prop :=
  wX0_countFitting t_sets_size t_ranked_room t_sets_weights n_t_sets_weights (fun r1 => wX0_findBest_4 t_sets_size t_ranked_room t_sets_weights n_t_sets_weights t_sets_profits n_t_sets_profits t_sets_bits n_t_sets_bits post t_bestWeight t_bestProfit t_bestBits r1)
theorem kX0_findBest_0 : Cond.fieldLink RX0 21 "KnapsackCore$Core" "sets" "LKnapsackCore$Sets;" ∈ wsX0_findBest := (List.mem_cons_of_mem _ (List.mem_append_left _ (List.mem_append_left _ (List.mem_append_left _ (List.mem_of_getElem? (i := 0) rfl)))))
theorem kX0_findBest_1 : Cond.fieldLink RX0 115 "KnapsackCore$Sets" "profits" "[I" ∈ wsX0_findBest := (List.mem_cons_of_mem _ (List.mem_append_left _ (List.mem_append_left _ (List.mem_append_left _ (List.mem_of_getElem? (i := 1) rfl)))))
theorem kX0_findBest_2 : Cond.fieldLink RX0 60 "KnapsackCore$Core" "bestProfit" "I" ∈ wsX0_findBest := (List.mem_cons_of_mem _ (List.mem_append_left _ (List.mem_append_left _ (List.mem_append_left _ (List.mem_of_getElem? (i := 2) rfl)))))
theorem kX0_findBest_3 : Cond.fieldLink RX0 107 "KnapsackCore$Sets" "weights" "[I" ∈ wsX0_findBest := (List.mem_cons_of_mem _ (List.mem_append_left _ (List.mem_append_left _ (List.mem_append_left _ (List.mem_of_getElem? (i := 3) rfl)))))
theorem kX0_findBest_4 : Cond.fieldLink RX0 54 "KnapsackCore$Core" "bestWeight" "I" ∈ wsX0_findBest := (List.mem_cons_of_mem _ (List.mem_append_left _ (List.mem_append_left _ (List.mem_append_left _ (List.mem_of_getElem? (i := 4) rfl)))))
theorem kX0_findBest_5 : Cond.fieldLink RX0 116 "KnapsackCore$Sets" "bits" "[J" ∈ wsX0_findBest := (List.mem_cons_of_mem _ (List.mem_append_left _ (List.mem_append_left _ (List.mem_append_left _ (List.mem_of_getElem? (i := 5) rfl)))))
theorem kX0_findBest_6 : Cond.fieldLink RX0 63 "KnapsackCore$Core" "bestBits" "J" ∈ wsX0_findBest := (List.mem_cons_of_mem _ (List.mem_append_left _ (List.mem_append_left _ (List.mem_append_left _ (List.mem_of_getElem? (i := 6) rfl)))))
theorem iX0_findBest_X0 : ∀ w ∈ u_ws RX0 TX0 10, w ∈ wsX0_findBest := fun w h => (List.mem_cons_of_mem _ (List.mem_append_left _ (List.mem_append_left _ (List.mem_append_right _ h))))
theorem iX0_findBest_X4 : ∀ w ∈ u_ws RX4 TX4 4, w ∈ wsX0_findBest := fun w h => (List.mem_cons_of_mem _ (List.mem_append_left _ (List.mem_append_right _ h)))
set_option maxHeartbeats 4000000 in
set_option maxRecDepth 100000 in
theorem mtX0_findBest (l : Launch) (ad : (Nat → Nat) × (Nat → Nat)) (dC : Nat → ClassId) (dI : Nat → Nat → Nat) (cy : Nat → ClassId) (a_t a_t_ranked a_t_sets a_t_spare a_t_sets_weights a_t_sets_profits a_t_sets_bits a_t_ranked_itemAt a_t_ranked_placeOf a_t_ranked_weights a_t_ranked_profits : Nat) (sz : Nat) (t_most t_from t_to t_steps t_bestWeight t_bestProfit : Int32) (t_bestBits : Int64) (t_sets_size t_ranked_items t_ranked_room t_ranked_breakPlace t_ranked_breakWeight t_ranked_breakProfit : Int32) (t_sets_weights : Nat → Int32) (n_t_sets_weights : Nat) (t_sets_profits : Nat → Int32) (n_t_sets_profits : Nat) (t_sets_bits : Nat → Int64) (n_t_sets_bits : Nat) {post : Int32 → Int32 → Int64 → Prop} (h : wX0_findBest t_sets_size t_ranked_room t_sets_weights n_t_sets_weights t_sets_profits n_t_sets_profits t_sets_bits n_t_sets_bits post t_bestWeight t_bestProfit t_bestBits) : xMv l yX0_findBest wsX0_findBest ({ frames := 1, cells := 0, slots := 0, locals := 21 } : Room) ad (dC, dI) vwCl (xT cy) [.ref a_t] [(a_t, .inr (0, [.ref a_t_ranked, .ref a_t_sets, .ref a_t_spare, .int t_most, .int t_from, .int t_to, .int t_steps, .int t_bestWeight, .int t_bestProfit, .long t_bestBits])), (a_t_sets, .inr (4, [.ref a_t_sets_weights, .ref a_t_sets_profits, .ref a_t_sets_bits, .int t_sets_size])), (a_t_ranked, .inr (2, [.ref a_t_ranked_itemAt, .ref a_t_ranked_placeOf, .ref a_t_ranked_weights, .ref a_t_ranked_profits, .int t_ranked_items, .int t_ranked_room, .int t_ranked_breakPlace, .int t_ranked_breakWeight, .int t_ranked_breakProfit])), (a_t_sets_weights, .inl (cy 0, n_t_sets_weights, .inl t_sets_weights)), (a_t_sets_profits, .inl (cy 0, n_t_sets_profits, .inl t_sets_profits)), (a_t_sets_bits, .inl (cy 1, n_t_sets_bits, .inr (.inl t_sets_bits)))] sz (fun (u : Int32 × Int32 × Int64) => post u.1 u.2.1 u.2.2) (fun (u : Int32 × Int32 × Int64) w => w = [(a_t, .inr (0, [.ref a_t_ranked, .ref a_t_sets, .ref a_t_spare, .int t_most, .int t_from, .int t_to, .int t_steps, .int u.1, .int u.2.1, .long u.2.2])), (a_t_sets, .inr (4, [.ref a_t_sets_weights, .ref a_t_sets_profits, .ref a_t_sets_bits, .int t_sets_size])), (a_t_ranked, .inr (2, [.ref a_t_ranked_itemAt, .ref a_t_ranked_placeOf, .ref a_t_ranked_weights, .ref a_t_ranked_profits, .int t_ranked_items, .int t_ranked_room, .int t_ranked_breakPlace, .int t_ranked_breakWeight, .int t_ranked_breakProfit])), (a_t_sets_weights, .inl (cy 0, n_t_sets_weights, .inl t_sets_weights)), (a_t_sets_profits, .inl (cy 0, n_t_sets_profits, .inl t_sets_profits)), (a_t_sets_bits, .inl (cy 1, n_t_sets_bits, .inr (.inl t_sets_bits)))]) 0 0 := by
  unfold xMv
  refine Met.ofW (cc := cX0_findBest) (maxL := 2) (ret := none) (by decide +kernel) rfl ?_
  intro p e s m args below meth c s₁ B hml hv
  obtain ⟨rfl, hsz, hP, hK, hD0, hE⟩ := hv
  have hx := B.exec
  have hb := B.bytes
  have hr := B.returns
  have hts := atoms_spec (ws := wsX0_findBest) B.pre
  have hown : s.vm.findClass RX0 = some m.cls := findClass_of_methodNamed B.named
  have hlocks := B.notSynchronized
  subst hsz
  have hD := hD0.self (sz := s.heap.size)
  generalize hAe : va_A [(a_t, .inr (0, [.ref a_t_ranked, .ref a_t_sets, .ref a_t_spare, .int t_most, .int t_from, .int t_to, .int t_steps, .int t_bestWeight, .int t_bestProfit, .long t_bestBits])), (a_t_sets, .inr (4, [.ref a_t_sets_weights, .ref a_t_sets_profits, .ref a_t_sets_bits, .int t_sets_size])), (a_t_ranked, .inr (2, [.ref a_t_ranked_itemAt, .ref a_t_ranked_placeOf, .ref a_t_ranked_weights, .ref a_t_ranked_profits, .int t_ranked_items, .int t_ranked_room, .int t_ranked_breakPlace, .int t_ranked_breakWeight, .int t_ranked_breakProfit])), (a_t_sets_weights, .inl (cy 0, n_t_sets_weights, .inl t_sets_weights)), (a_t_sets_profits, .inl (cy 0, n_t_sets_profits, .inl t_sets_profits)), (a_t_sets_bits, .inl (cy 1, n_t_sets_bits, .inr (.inl t_sets_bits)))] s.heap.size = A at hD hE ⊢
  have hA : ∀ q : Nat, s.heap.size ≤ q → A q := fun q h => by rw [← hAe]; exact Or.inr h
  have hS : va_S A s.heap s.heap [] := va_S.rf
  have hl := lv_entry ([.ref a_t]) (n := 2) (Nat.le_of_ble_eq_true rfl)
  rw [lg_entry_eq]
  generalize (lg_sl ([.ref a_t]) ++ List.replicate (2 - (lg_sl ([.ref a_t])).length) Slot.unset).toArray = ls at hl ⊢
  have hl : lv_has ls 2 [(0, .ref a_t)] := hl
  generalize hQ : MQ below _ _ s _ _ _ = Q
  generalize ([.ref a_t] : List Value).toArray = args at hts hQ ⊢
  clear B hD0 hAe
  refine lv_aload_n hx hb dX0_findBest_0 rfl (lv_at hl 0 rfl) ?_
  refine xVi0 (As := []) (rest := []) ⟨hx, hb, hml, hown, hts⟩ (mtX0_countFitting l ad dC dI cy a_t a_t_ranked a_t_sets a_t_spare a_t_sets_weights a_t_sets_profits a_t_sets_bits a_t_ranked_itemAt a_t_ranked_placeOf a_t_ranked_weights a_t_ranked_profits _ t_most t_from t_to t_steps t_bestWeight t_bestProfit t_bestBits t_sets_size t_ranked_items t_ranked_room t_ranked_breakPlace t_ranked_breakWeight t_ranked_breakProfit t_sets_weights n_t_sets_weights  h) (cwV 0 hts gX0_findBest_X0_countFitting rfl rfl rfl qX0_countFitting ⟨Nat.le_of_ble_eq_true rfl, Nat.le_of_ble_eq_true rfl⟩) hE hK hP hD hS hA 0 0 rfl rfl rfl [0, 1, 2, 3] rfl (by decide) rfl hl.1 rfl (Nat.le_of_ble_eq_true rfl) dX0_findBest_1 ⟨Nat.le_refl _, Nat.le_refl _⟩ (fun r1 H locs h hP hS => ?_)
  try dsimp only at h
  refine lv_iconst (v := 1) hx hb dX0_findBest_4 (by decide) ?_
  refine lv_isub hx hb dX0_findBest_5 ?_
  refine lv_istore_n (lv' := [(1, .int (r1 - (1 : Int32))), (0, .ref a_t)]) hx hb dX0_findBest_6 rfl hl (by decide) rfl (fun ls hl => ?_)
  refine lv_iload_n hx hb dX0_findBest_7 rfl (lv_at hl 0 rfl) ?_
  refine lv_if_lt (tgt := 66) hx hb dX0_findBest_8 (by decide) (fun c_1 => ?_) (fun c_1 => ?_)
  · replace h := h.1 c_1
    rw [← hQ]
    exact W.vret hx hb hr (fun t ht hW => ⟨⟨(t_bestWeight, t_bestProfit, t_bestBits), rfl, (by dsimp only; exact h), x_end (w1 := [(a_t, .inr (0, [.ref a_t_ranked, .ref a_t_sets, .ref a_t_spare, .int t_most, .int t_from, .int t_to, .int t_steps, .int t_bestWeight, .int t_bestProfit, .long t_bestBits])), (a_t_sets, .inr (4, [.ref a_t_sets_weights, .ref a_t_sets_profits, .ref a_t_sets_bits, .int t_sets_size])), (a_t_ranked, .inr (2, [.ref a_t_ranked_itemAt, .ref a_t_ranked_placeOf, .ref a_t_ranked_weights, .ref a_t_ranked_profits, .int t_ranked_items, .int t_ranked_room, .int t_ranked_breakPlace, .int t_ranked_breakWeight, .int t_ranked_breakProfit])), (a_t_sets_weights, .inl (cy 0, n_t_sets_weights, .inl t_sets_weights)), (a_t_sets_profits, .inl (cy 0, n_t_sets_profits, .inl t_sets_profits)), (a_t_sets_bits, .inl (cy 1, n_t_sets_bits, .inr (.inl t_sets_bits)))]) hP hD hK [0, 1, 2, 3, 4, 5] rfl (by decide) (by first | exact rfl | (dsimp only; exact rfl)) ht hW⟩, hS.F ht⟩) hS.2.2 dX0_findBest_66
  · replace h := h.2 c_1
    refine lv_aload_n hx hb dX0_findBest_11 rfl (lv_at hl 1 rfl) ?_
    refine va_get (D := (dC, dI)) (ci := 0) (v := .ref a_t_sets) (C := RX0) (T := TX0) (N := 10) hx hb hts iX0_findBest_X0 hown hK hP 0 rfl rfl 1 (Nat.le_of_ble_eq_true rfl) (hts _ kX0_findBest_0) (fun _ h9 => h9) rfl dX0_findBest_12 ?_
    refine va_get (D := (dC, dI)) (ci := 4) (v := .ref a_t_sets_profits) (C := RX4) (T := TX4) (N := 4) hx hb hts iX0_findBest_X4 hown hK hP 1 rfl rfl 1 (Nat.le_of_ble_eq_true rfl) (hts _ kX0_findBest_1) (fun _ h9 => h9) rfl dX0_findBest_15 ?_
    refine lv_iload_n hx hb dX0_findBest_18 rfl (lv_at hl 0 rfl) ?_
    refine va_iald (D := (dC, dI)) hx hb hK hP 4 0 rfl rfl h.1 dX0_findBest_19 ?_
    replace h := h.2
    refine lv_aload_n hx hb dX0_findBest_20 rfl (lv_at hl 1 rfl) ?_
    refine va_get (D := (dC, dI)) (ci := 0) (v := .int t_bestProfit) (C := RX0) (T := TX0) (N := 10) hx hb hts iX0_findBest_X0 hown hK hP 0 rfl rfl 8 (Nat.le_of_ble_eq_true rfl) (hts _ kX0_findBest_2) (fun _ h9 => h9) rfl dX0_findBest_21 ?_
    refine lv_icmp_le (tgt := 66) hx hb dX0_findBest_24 (by decide) (fun c_2 => ?_) (fun c_2 => ?_)
    · replace h := h.1 c_2
      rw [← hQ]
      exact W.vret hx hb hr (fun t ht hW => ⟨⟨(t_bestWeight, t_bestProfit, t_bestBits), rfl, (by dsimp only; exact h), x_end (w1 := [(a_t, .inr (0, [.ref a_t_ranked, .ref a_t_sets, .ref a_t_spare, .int t_most, .int t_from, .int t_to, .int t_steps, .int t_bestWeight, .int t_bestProfit, .long t_bestBits])), (a_t_sets, .inr (4, [.ref a_t_sets_weights, .ref a_t_sets_profits, .ref a_t_sets_bits, .int t_sets_size])), (a_t_ranked, .inr (2, [.ref a_t_ranked_itemAt, .ref a_t_ranked_placeOf, .ref a_t_ranked_weights, .ref a_t_ranked_profits, .int t_ranked_items, .int t_ranked_room, .int t_ranked_breakPlace, .int t_ranked_breakWeight, .int t_ranked_breakProfit])), (a_t_sets_weights, .inl (cy 0, n_t_sets_weights, .inl t_sets_weights)), (a_t_sets_profits, .inl (cy 0, n_t_sets_profits, .inl t_sets_profits)), (a_t_sets_bits, .inl (cy 1, n_t_sets_bits, .inr (.inl t_sets_bits)))]) hP hD hK [0, 1, 2, 3, 4, 5] rfl (by decide) (by first | exact rfl | (dsimp only; exact rfl)) ht hW⟩, hS.F ht⟩) hS.2.2 dX0_findBest_66
    · replace h := h.2 c_2
      refine lv_aload_n hx hb dX0_findBest_27 rfl (lv_at hl 1 rfl) ?_
      refine lv_aload_n hx hb dX0_findBest_28 rfl (lv_at hl 1 rfl) ?_
      refine va_get (D := (dC, dI)) (ci := 0) (v := .ref a_t_sets) (C := RX0) (T := TX0) (N := 10) hx hb hts iX0_findBest_X0 hown hK hP 0 rfl rfl 1 (Nat.le_of_ble_eq_true rfl) (hts _ kX0_findBest_0) (fun _ h9 => h9) rfl dX0_findBest_29 ?_
      refine va_get (D := (dC, dI)) (ci := 4) (v := .ref a_t_sets_weights) (C := RX4) (T := TX4) (N := 4) hx hb hts iX0_findBest_X4 hown hK hP 1 rfl rfl 0 (Nat.le_of_ble_eq_true rfl) (hts _ kX0_findBest_3) (fun _ h9 => h9) rfl dX0_findBest_32 ?_
      refine lv_iload_n hx hb dX0_findBest_35 rfl (lv_at hl 0 rfl) ?_
      refine va_iald (D := (dC, dI)) hx hb hK hP 3 0 rfl rfl h.1 dX0_findBest_36 ?_
      replace h := h.2
      refine va_put (D := (dC, dI)) (ci := 0) (v := .int (t_sets_weights ((r1 - (1 : Int32))).toNatClampNeg)) (C := RX0) (T := TX0) (N := 10) hx hb hts iX0_findBest_X0 tyX0 tyX0_ok nmX0 hown hK hP hD hS 0 rfl rfl 7 (Nat.le_of_ble_eq_true rfl) (hts _ kX0_findBest_4) (fun _ h9 => h9) rfl (tyX0_ok 7 (Nat.le_of_ble_eq_true rfl)) rfl rfl (Nat.le_of_ble_eq_true rfl) dX0_findBest_37 (fun H locs hP hD hS => ?_)
      have hP : va_P (dC, dI) vwCl [(a_t, .inr (0, [.ref a_t_ranked, .ref a_t_sets, .ref a_t_spare, .int t_most, .int t_from, .int t_to, .int t_steps, .int (t_sets_weights ((r1 - (1 : Int32))).toNatClampNeg), .int t_bestProfit, .long t_bestBits])), (a_t_sets, .inr (4, [.ref a_t_sets_weights, .ref a_t_sets_profits, .ref a_t_sets_bits, .int t_sets_size])), (a_t_ranked, .inr (2, [.ref a_t_ranked_itemAt, .ref a_t_ranked_placeOf, .ref a_t_ranked_weights, .ref a_t_ranked_profits, .int t_ranked_items, .int t_ranked_room, .int t_ranked_breakPlace, .int t_ranked_breakWeight, .int t_ranked_breakProfit])), (a_t_sets_weights, .inl (cy 0, n_t_sets_weights, .inl t_sets_weights)), (a_t_sets_profits, .inl (cy 0, n_t_sets_profits, .inl t_sets_profits)), (a_t_sets_bits, .inl (cy 1, n_t_sets_bits, .inr (.inl t_sets_bits)))] H := hP
      have hD : va_D A [(a_t, .inr (0, [.ref a_t_ranked, .ref a_t_sets, .ref a_t_spare, .int t_most, .int t_from, .int t_to, .int t_steps, .int (t_sets_weights ((r1 - (1 : Int32))).toNatClampNeg), .int t_bestProfit, .long t_bestBits])), (a_t_sets, .inr (4, [.ref a_t_sets_weights, .ref a_t_sets_profits, .ref a_t_sets_bits, .int t_sets_size])), (a_t_ranked, .inr (2, [.ref a_t_ranked_itemAt, .ref a_t_ranked_placeOf, .ref a_t_ranked_weights, .ref a_t_ranked_profits, .int t_ranked_items, .int t_ranked_room, .int t_ranked_breakPlace, .int t_ranked_breakWeight, .int t_ranked_breakProfit])), (a_t_sets_weights, .inl (cy 0, n_t_sets_weights, .inl t_sets_weights)), (a_t_sets_profits, .inl (cy 0, n_t_sets_profits, .inl t_sets_profits)), (a_t_sets_bits, .inl (cy 1, n_t_sets_bits, .inr (.inl t_sets_bits)))] := hD
      refine lv_aload_n hx hb dX0_findBest_40 rfl (lv_at hl 1 rfl) ?_
      refine lv_aload_n hx hb dX0_findBest_41 rfl (lv_at hl 1 rfl) ?_
      refine va_get (D := (dC, dI)) (ci := 0) (v := .ref a_t_sets) (C := RX0) (T := TX0) (N := 10) hx hb hts iX0_findBest_X0 hown hK hP 0 rfl rfl 1 (Nat.le_of_ble_eq_true rfl) (hts _ kX0_findBest_0) (fun _ h9 => h9) rfl dX0_findBest_42 ?_
      refine va_get (D := (dC, dI)) (ci := 4) (v := .ref a_t_sets_profits) (C := RX4) (T := TX4) (N := 4) hx hb hts iX0_findBest_X4 hown hK hP 1 rfl rfl 1 (Nat.le_of_ble_eq_true rfl) (hts _ kX0_findBest_1) (fun _ h9 => h9) rfl dX0_findBest_45 ?_
      refine lv_iload_n hx hb dX0_findBest_48 rfl (lv_at hl 0 rfl) ?_
      refine va_iald (D := (dC, dI)) hx hb hK hP 4 0 rfl rfl h.1 dX0_findBest_49 ?_
      replace h := h.2
      refine va_put (D := (dC, dI)) (ci := 0) (v := .int (t_sets_profits ((r1 - (1 : Int32))).toNatClampNeg)) (C := RX0) (T := TX0) (N := 10) hx hb hts iX0_findBest_X0 tyX0 tyX0_ok nmX0 hown hK hP hD hS 0 rfl rfl 8 (Nat.le_of_ble_eq_true rfl) (hts _ kX0_findBest_2) (fun _ h9 => h9) rfl (tyX0_ok 8 (Nat.le_of_ble_eq_true rfl)) rfl rfl (Nat.le_of_ble_eq_true rfl) dX0_findBest_50 (fun H locs hP hD hS => ?_)
      have hP : va_P (dC, dI) vwCl [(a_t, .inr (0, [.ref a_t_ranked, .ref a_t_sets, .ref a_t_spare, .int t_most, .int t_from, .int t_to, .int t_steps, .int (t_sets_weights ((r1 - (1 : Int32))).toNatClampNeg), .int (t_sets_profits ((r1 - (1 : Int32))).toNatClampNeg), .long t_bestBits])), (a_t_sets, .inr (4, [.ref a_t_sets_weights, .ref a_t_sets_profits, .ref a_t_sets_bits, .int t_sets_size])), (a_t_ranked, .inr (2, [.ref a_t_ranked_itemAt, .ref a_t_ranked_placeOf, .ref a_t_ranked_weights, .ref a_t_ranked_profits, .int t_ranked_items, .int t_ranked_room, .int t_ranked_breakPlace, .int t_ranked_breakWeight, .int t_ranked_breakProfit])), (a_t_sets_weights, .inl (cy 0, n_t_sets_weights, .inl t_sets_weights)), (a_t_sets_profits, .inl (cy 0, n_t_sets_profits, .inl t_sets_profits)), (a_t_sets_bits, .inl (cy 1, n_t_sets_bits, .inr (.inl t_sets_bits)))] H := hP
      have hD : va_D A [(a_t, .inr (0, [.ref a_t_ranked, .ref a_t_sets, .ref a_t_spare, .int t_most, .int t_from, .int t_to, .int t_steps, .int (t_sets_weights ((r1 - (1 : Int32))).toNatClampNeg), .int (t_sets_profits ((r1 - (1 : Int32))).toNatClampNeg), .long t_bestBits])), (a_t_sets, .inr (4, [.ref a_t_sets_weights, .ref a_t_sets_profits, .ref a_t_sets_bits, .int t_sets_size])), (a_t_ranked, .inr (2, [.ref a_t_ranked_itemAt, .ref a_t_ranked_placeOf, .ref a_t_ranked_weights, .ref a_t_ranked_profits, .int t_ranked_items, .int t_ranked_room, .int t_ranked_breakPlace, .int t_ranked_breakWeight, .int t_ranked_breakProfit])), (a_t_sets_weights, .inl (cy 0, n_t_sets_weights, .inl t_sets_weights)), (a_t_sets_profits, .inl (cy 0, n_t_sets_profits, .inl t_sets_profits)), (a_t_sets_bits, .inl (cy 1, n_t_sets_bits, .inr (.inl t_sets_bits)))] := hD
      refine lv_aload_n hx hb dX0_findBest_53 rfl (lv_at hl 1 rfl) ?_
      refine lv_aload_n hx hb dX0_findBest_54 rfl (lv_at hl 1 rfl) ?_
      refine va_get (D := (dC, dI)) (ci := 0) (v := .ref a_t_sets) (C := RX0) (T := TX0) (N := 10) hx hb hts iX0_findBest_X0 hown hK hP 0 rfl rfl 1 (Nat.le_of_ble_eq_true rfl) (hts _ kX0_findBest_0) (fun _ h9 => h9) rfl dX0_findBest_55 ?_
      refine va_get (D := (dC, dI)) (ci := 4) (v := .ref a_t_sets_bits) (C := RX4) (T := TX4) (N := 4) hx hb hts iX0_findBest_X4 hown hK hP 1 rfl rfl 2 (Nat.le_of_ble_eq_true rfl) (hts _ kX0_findBest_5) (fun _ h9 => h9) rfl dX0_findBest_58 ?_
      refine lv_iload_n hx hb dX0_findBest_61 rfl (lv_at hl 0 rfl) ?_
      refine va_lald (D := (dC, dI)) hx hb hK hP 5 1 rfl rfl h.1 dX0_findBest_62 ?_
      replace h := h.2
      refine va_put (D := (dC, dI)) (ci := 0) (v := .long (t_sets_bits ((r1 - (1 : Int32))).toNatClampNeg)) (C := RX0) (T := TX0) (N := 10) hx hb hts iX0_findBest_X0 tyX0 tyX0_ok nmX0 hown hK hP hD hS 0 rfl rfl 9 (Nat.le_of_ble_eq_true rfl) (hts _ kX0_findBest_6) (fun _ h9 => h9) rfl (tyX0_ok 9 (Nat.le_of_ble_eq_true rfl)) rfl rfl (Nat.le_of_ble_eq_true rfl) dX0_findBest_63 (fun H locs hP hD hS => ?_)
      have hP : va_P (dC, dI) vwCl [(a_t, .inr (0, [.ref a_t_ranked, .ref a_t_sets, .ref a_t_spare, .int t_most, .int t_from, .int t_to, .int t_steps, .int (t_sets_weights ((r1 - (1 : Int32))).toNatClampNeg), .int (t_sets_profits ((r1 - (1 : Int32))).toNatClampNeg), .long (t_sets_bits ((r1 - (1 : Int32))).toNatClampNeg)])), (a_t_sets, .inr (4, [.ref a_t_sets_weights, .ref a_t_sets_profits, .ref a_t_sets_bits, .int t_sets_size])), (a_t_ranked, .inr (2, [.ref a_t_ranked_itemAt, .ref a_t_ranked_placeOf, .ref a_t_ranked_weights, .ref a_t_ranked_profits, .int t_ranked_items, .int t_ranked_room, .int t_ranked_breakPlace, .int t_ranked_breakWeight, .int t_ranked_breakProfit])), (a_t_sets_weights, .inl (cy 0, n_t_sets_weights, .inl t_sets_weights)), (a_t_sets_profits, .inl (cy 0, n_t_sets_profits, .inl t_sets_profits)), (a_t_sets_bits, .inl (cy 1, n_t_sets_bits, .inr (.inl t_sets_bits)))] H := hP
      have hD : va_D A [(a_t, .inr (0, [.ref a_t_ranked, .ref a_t_sets, .ref a_t_spare, .int t_most, .int t_from, .int t_to, .int t_steps, .int (t_sets_weights ((r1 - (1 : Int32))).toNatClampNeg), .int (t_sets_profits ((r1 - (1 : Int32))).toNatClampNeg), .long (t_sets_bits ((r1 - (1 : Int32))).toNatClampNeg)])), (a_t_sets, .inr (4, [.ref a_t_sets_weights, .ref a_t_sets_profits, .ref a_t_sets_bits, .int t_sets_size])), (a_t_ranked, .inr (2, [.ref a_t_ranked_itemAt, .ref a_t_ranked_placeOf, .ref a_t_ranked_weights, .ref a_t_ranked_profits, .int t_ranked_items, .int t_ranked_room, .int t_ranked_breakPlace, .int t_ranked_breakWeight, .int t_ranked_breakProfit])), (a_t_sets_weights, .inl (cy 0, n_t_sets_weights, .inl t_sets_weights)), (a_t_sets_profits, .inl (cy 0, n_t_sets_profits, .inl t_sets_profits)), (a_t_sets_bits, .inl (cy 1, n_t_sets_bits, .inr (.inl t_sets_bits)))] := hD
      rw [← hQ]
      exact W.vret hx hb hr (fun t ht hW => ⟨⟨((t_sets_weights ((r1 - (1 : Int32))).toNatClampNeg), (t_sets_profits ((r1 - (1 : Int32))).toNatClampNeg), (t_sets_bits ((r1 - (1 : Int32))).toNatClampNeg)), rfl, (by dsimp only; exact h), x_end (w1 := [(a_t, .inr (0, [.ref a_t_ranked, .ref a_t_sets, .ref a_t_spare, .int t_most, .int t_from, .int t_to, .int t_steps, .int (t_sets_weights ((r1 - (1 : Int32))).toNatClampNeg), .int (t_sets_profits ((r1 - (1 : Int32))).toNatClampNeg), .long (t_sets_bits ((r1 - (1 : Int32))).toNatClampNeg)])), (a_t_sets, .inr (4, [.ref a_t_sets_weights, .ref a_t_sets_profits, .ref a_t_sets_bits, .int t_sets_size])), (a_t_ranked, .inr (2, [.ref a_t_ranked_itemAt, .ref a_t_ranked_placeOf, .ref a_t_ranked_weights, .ref a_t_ranked_profits, .int t_ranked_items, .int t_ranked_room, .int t_ranked_breakPlace, .int t_ranked_breakWeight, .int t_ranked_breakProfit])), (a_t_sets_weights, .inl (cy 0, n_t_sets_weights, .inl t_sets_weights)), (a_t_sets_profits, .inl (cy 0, n_t_sets_profits, .inl t_sets_profits)), (a_t_sets_bits, .inl (cy 1, n_t_sets_bits, .inr (.inl t_sets_bits)))]) hP hD hK [0, 1, 2, 3, 4, 5] rfl (by decide) (by first | exact rfl | (dsimp only; exact rfl)) ht hW⟩, hS.F ht⟩) hS.2.2 dX0_findBest_66

def wX0_isProved_33 (t_from t_to t_sets_size t_ranked_items : Int32) (post : Int32 → Prop)  : Prop :=
  post (1 : Int32)
/-- KnapsackCore$Core.isProved()Z -/
def wX0_isProved (t_from t_to t_sets_size t_ranked_items : Int32) (post : Int32 → Prop)  : Prop :=
  (t_sets_size = (0 : Int32) → wX0_isProved_33 t_from t_to t_sets_size t_ranked_items post ) ∧ (¬ t_sets_size = (0 : Int32) → (t_from = (0 : Int32) → (t_to = (t_ranked_items - (1 : Int32)) → wX0_isProved_33 t_from t_to t_sets_size t_ranked_items post ) ∧ (¬ t_to = (t_ranked_items - (1 : Int32)) → post (0 : Int32))) ∧ (¬ t_from = (0 : Int32) → post (0 : Int32)))
theorem kX0_isProved_0 : Cond.fieldLink RX0 21 "KnapsackCore$Core" "sets" "LKnapsackCore$Sets;" ∈ wsX0_isProved := (List.mem_cons_of_mem _ (List.mem_append_left _ (List.mem_append_left _ (List.mem_append_left _ (List.mem_of_getElem? (i := 0) rfl)))))
theorem kX0_isProved_1 : Cond.fieldLink RX0 67 "KnapsackCore$Sets" "size" "I" ∈ wsX0_isProved := (List.mem_cons_of_mem _ (List.mem_append_left _ (List.mem_append_left _ (List.mem_append_left _ (List.mem_of_getElem? (i := 1) rfl)))))
theorem kX0_isProved_2 : Cond.fieldLink RX0 42 "KnapsackCore$Core" "from" "I" ∈ wsX0_isProved := (List.mem_cons_of_mem _ (List.mem_append_left _ (List.mem_append_left _ (List.mem_append_left _ (List.mem_of_getElem? (i := 2) rfl)))))
theorem kX0_isProved_3 : Cond.fieldLink RX0 45 "KnapsackCore$Core" "to" "I" ∈ wsX0_isProved := (List.mem_cons_of_mem _ (List.mem_append_left _ (List.mem_append_left _ (List.mem_append_left _ (List.mem_of_getElem? (i := 3) rfl)))))
theorem kX0_isProved_4 : Cond.fieldLink RX0 12 "KnapsackCore$Core" "ranked" "LKnapsackCore$Ranked;" ∈ wsX0_isProved := (List.mem_cons_of_mem _ (List.mem_append_left _ (List.mem_append_left _ (List.mem_append_left _ (List.mem_of_getElem? (i := 4) rfl)))))
theorem kX0_isProved_5 : Cond.fieldLink RX0 74 "KnapsackCore$Ranked" "items" "I" ∈ wsX0_isProved := (List.mem_cons_of_mem _ (List.mem_append_left _ (List.mem_append_left _ (List.mem_append_left _ (List.mem_of_getElem? (i := 5) rfl)))))
theorem iX0_isProved_X0 : ∀ w ∈ u_ws RX0 TX0 10, w ∈ wsX0_isProved := fun w h => (List.mem_cons_of_mem _ (List.mem_append_left _ (List.mem_append_left _ (List.mem_append_right _ h))))
theorem iX0_isProved_X4 : ∀ w ∈ u_ws RX4 TX4 4, w ∈ wsX0_isProved := fun w h => (List.mem_cons_of_mem _ (List.mem_append_left _ (List.mem_append_right _ h)))
theorem iX0_isProved_X2 : ∀ w ∈ u_ws RX2 TX2 9, w ∈ wsX0_isProved := fun w h => (List.mem_cons_of_mem _ (List.mem_append_right _ h))
set_option maxHeartbeats 4000000 in
set_option maxRecDepth 100000 in
theorem mtX0_isProved (l : Launch) (ad : (Nat → Nat) × (Nat → Nat)) (dC : Nat → ClassId) (dI : Nat → Nat → Nat) (cy : Nat → ClassId) (a_t a_t_ranked a_t_sets a_t_spare a_t_sets_weights a_t_sets_profits a_t_sets_bits a_t_ranked_itemAt a_t_ranked_placeOf a_t_ranked_weights a_t_ranked_profits : Nat) (sz : Nat) (t_most t_from t_to t_steps t_bestWeight t_bestProfit : Int32) (t_bestBits : Int64) (t_sets_size t_ranked_items t_ranked_room t_ranked_breakPlace t_ranked_breakWeight t_ranked_breakProfit : Int32) {post : Int32 → Prop} (h : wX0_isProved t_from t_to t_sets_size t_ranked_items post) : xMi l yX0_isProved wsX0_isProved ({ frames := 0, cells := 0, slots := 0, locals := 0 } : Room) ad (dC, dI) vwCl (xT cy) [.ref a_t] [(a_t, .inr (0, [.ref a_t_ranked, .ref a_t_sets, .ref a_t_spare, .int t_most, .int t_from, .int t_to, .int t_steps, .int t_bestWeight, .int t_bestProfit, .long t_bestBits])), (a_t_sets, .inr (4, [.ref a_t_sets_weights, .ref a_t_sets_profits, .ref a_t_sets_bits, .int t_sets_size])), (a_t_ranked, .inr (2, [.ref a_t_ranked_itemAt, .ref a_t_ranked_placeOf, .ref a_t_ranked_weights, .ref a_t_ranked_profits, .int t_ranked_items, .int t_ranked_room, .int t_ranked_breakPlace, .int t_ranked_breakWeight, .int t_ranked_breakProfit]))] sz (fun (r : Int32) (_ : Unit) => post r) (fun (_ : Unit) w => w = [(a_t, .inr (0, [.ref a_t_ranked, .ref a_t_sets, .ref a_t_spare, .int t_most, .int t_from, .int t_to, .int t_steps, .int t_bestWeight, .int t_bestProfit, .long t_bestBits])), (a_t_sets, .inr (4, [.ref a_t_sets_weights, .ref a_t_sets_profits, .ref a_t_sets_bits, .int t_sets_size])), (a_t_ranked, .inr (2, [.ref a_t_ranked_itemAt, .ref a_t_ranked_placeOf, .ref a_t_ranked_weights, .ref a_t_ranked_profits, .int t_ranked_items, .int t_ranked_room, .int t_ranked_breakPlace, .int t_ranked_breakWeight, .int t_ranked_breakProfit]))]) 0 0 := by
  unfold xMi
  refine Met.ofW (cc := cX0_isProved) (maxL := 1) (ret := (some .boolean)) (by decide +kernel) rfl ?_
  intro p e s m args below meth c s₁ B hml hv
  obtain ⟨rfl, hsz, hP, hK, hD0, hE⟩ := hv
  have hx := B.exec
  have hb := B.bytes
  have hr := B.returns
  have hts := atoms_spec (ws := wsX0_isProved) B.pre
  have hown : s.vm.findClass RX0 = some m.cls := findClass_of_methodNamed B.named
  have hlocks := B.notSynchronized
  subst hsz
  have hD := hD0.self (sz := s.heap.size)
  generalize hAe : va_A [(a_t, .inr (0, [.ref a_t_ranked, .ref a_t_sets, .ref a_t_spare, .int t_most, .int t_from, .int t_to, .int t_steps, .int t_bestWeight, .int t_bestProfit, .long t_bestBits])), (a_t_sets, .inr (4, [.ref a_t_sets_weights, .ref a_t_sets_profits, .ref a_t_sets_bits, .int t_sets_size])), (a_t_ranked, .inr (2, [.ref a_t_ranked_itemAt, .ref a_t_ranked_placeOf, .ref a_t_ranked_weights, .ref a_t_ranked_profits, .int t_ranked_items, .int t_ranked_room, .int t_ranked_breakPlace, .int t_ranked_breakWeight, .int t_ranked_breakProfit]))] s.heap.size = A at hD hE ⊢
  have hA : ∀ q : Nat, s.heap.size ≤ q → A q := fun q h => by rw [← hAe]; exact Or.inr h
  have hS : va_S A s.heap s.heap [] := va_S.rf
  have hl := lv_entry ([.ref a_t]) (n := 1) (Nat.le_of_ble_eq_true rfl)
  rw [lg_entry_eq]
  generalize (lg_sl ([.ref a_t]) ++ List.replicate (1 - (lg_sl ([.ref a_t])).length) Slot.unset).toArray = ls at hl ⊢
  have hl : lv_has ls 1 [(0, .ref a_t)] := hl
  generalize hQ : MQ below _ _ s _ _ _ = Q
  generalize ([.ref a_t] : List Value).toArray = args at hts hQ ⊢
  clear B hD0 hAe
  have C33 : wX0_isProved_33 t_from t_to t_sets_size t_ranked_items post → ∀ (H : Heap) (locs : List Loc) (ls : Array Slot), va_P (dC, dI) vwCl [(a_t, .inr (0, [.ref a_t_ranked, .ref a_t_sets, .ref a_t_spare, .int t_most, .int t_from, .int t_to, .int t_steps, .int t_bestWeight, .int t_bestProfit, .long t_bestBits])), (a_t_sets, .inr (4, [.ref a_t_sets_weights, .ref a_t_sets_profits, .ref a_t_sets_bits, .int t_sets_size])), (a_t_ranked, .inr (2, [.ref a_t_ranked_itemAt, .ref a_t_ranked_placeOf, .ref a_t_ranked_weights, .ref a_t_ranked_profits, .int t_ranked_items, .int t_ranked_room, .int t_ranked_breakPlace, .int t_ranked_breakWeight, .int t_ranked_breakProfit]))] H → va_D A [(a_t, .inr (0, [.ref a_t_ranked, .ref a_t_sets, .ref a_t_spare, .int t_most, .int t_from, .int t_to, .int t_steps, .int t_bestWeight, .int t_bestProfit, .long t_bestBits])), (a_t_sets, .inr (4, [.ref a_t_sets_weights, .ref a_t_sets_profits, .ref a_t_sets_bits, .int t_sets_size])), (a_t_ranked, .inr (2, [.ref a_t_ranked_itemAt, .ref a_t_ranked_placeOf, .ref a_t_ranked_weights, .ref a_t_ranked_profits, .int t_ranked_items, .int t_ranked_room, .int t_ranked_breakPlace, .int t_ranked_breakWeight, .int t_ranked_breakProfit]))] → va_S A s.heap H locs → lv_has ls 1 [] → W p l e (headSpec wsX0_isProved ({ frames := 0, cells := 0, slots := 0, locals := 0 } : Room)).room s m args below meth c H locs 0 0 Q (F0 m 33 ls []) := by
    intro h H locs ls hP hD hS hl
    refine lv_iconst (v := 1) hx hb dX0_isProved_33 (by decide) ?_
    refine lv_goto (tgt := 38) hx hb dX0_isProved_34 (by decide) ?_
    rw [← hQ]
    exact W.zret (v := (1 : Int32)) hx hb hr rfl (fun t ht hW => ⟨⟨(1 : Int32), (), rfl, h, x_end (w1 := [(a_t, .inr (0, [.ref a_t_ranked, .ref a_t_sets, .ref a_t_spare, .int t_most, .int t_from, .int t_to, .int t_steps, .int t_bestWeight, .int t_bestProfit, .long t_bestBits])), (a_t_sets, .inr (4, [.ref a_t_sets_weights, .ref a_t_sets_profits, .ref a_t_sets_bits, .int t_sets_size])), (a_t_ranked, .inr (2, [.ref a_t_ranked_itemAt, .ref a_t_ranked_placeOf, .ref a_t_ranked_weights, .ref a_t_ranked_profits, .int t_ranked_items, .int t_ranked_room, .int t_ranked_breakPlace, .int t_ranked_breakWeight, .int t_ranked_breakProfit]))]) hP hD hK [0, 1, 2] rfl (by decide) rfl ht hW⟩, hS.F ht⟩) hS.2.2 dX0_isProved_38
  refine lv_aload_n hx hb dX0_isProved_0 rfl (lv_at hl 0 rfl) ?_
  refine va_get (D := (dC, dI)) (ci := 0) (v := .ref a_t_sets) (C := RX0) (T := TX0) (N := 10) hx hb hts iX0_isProved_X0 hown hK hP 0 rfl rfl 1 (Nat.le_of_ble_eq_true rfl) (hts _ kX0_isProved_0) (fun _ h9 => h9) rfl dX0_isProved_1 ?_
  refine va_get (D := (dC, dI)) (ci := 4) (v := .int t_sets_size) (C := RX4) (T := TX4) (N := 4) hx hb hts iX0_isProved_X4 hown hK hP 1 rfl rfl 3 (Nat.le_of_ble_eq_true rfl) (hts _ kX0_isProved_1) (fun _ h9 => h9) rfl dX0_isProved_4 ?_
  refine lv_if_eq (tgt := 33) hx hb dX0_isProved_7 (by decide) (fun c_1 => ?_) (fun c_1 => ?_)
  · replace h := h.1 c_1
    exact C33  h _ _ _ (x_sub hP [0, 1, 2] rfl) (hD.sub [0, 1, 2] (by decide) rfl) hS (lv_sub hl [] rfl)
  · replace h := h.2 c_1
    refine lv_aload_n hx hb dX0_isProved_10 rfl (lv_at hl 0 rfl) ?_
    refine va_get (D := (dC, dI)) (ci := 0) (v := .int t_from) (C := RX0) (T := TX0) (N := 10) hx hb hts iX0_isProved_X0 hown hK hP 0 rfl rfl 4 (Nat.le_of_ble_eq_true rfl) (hts _ kX0_isProved_2) (fun _ h9 => h9) rfl dX0_isProved_11 ?_
    refine lv_if_ne (tgt := 37) hx hb dX0_isProved_14 (by decide) (fun c_2 => ?_) (fun c_2 => ?_)
    · replace h := h.2 c_2
      refine lv_iconst (v := 0) hx hb dX0_isProved_37 (by decide) ?_
      rw [← hQ]
      exact W.zret (v := (0 : Int32)) hx hb hr rfl (fun t ht hW => ⟨⟨(0 : Int32), (), rfl, h, x_end (w1 := [(a_t, .inr (0, [.ref a_t_ranked, .ref a_t_sets, .ref a_t_spare, .int t_most, .int t_from, .int t_to, .int t_steps, .int t_bestWeight, .int t_bestProfit, .long t_bestBits])), (a_t_sets, .inr (4, [.ref a_t_sets_weights, .ref a_t_sets_profits, .ref a_t_sets_bits, .int t_sets_size])), (a_t_ranked, .inr (2, [.ref a_t_ranked_itemAt, .ref a_t_ranked_placeOf, .ref a_t_ranked_weights, .ref a_t_ranked_profits, .int t_ranked_items, .int t_ranked_room, .int t_ranked_breakPlace, .int t_ranked_breakWeight, .int t_ranked_breakProfit]))]) hP hD hK [0, 1, 2] rfl (by decide) rfl ht hW⟩, hS.F ht⟩) hS.2.2 dX0_isProved_38
    · replace h := h.1 c_2
      refine lv_aload_n hx hb dX0_isProved_17 rfl (lv_at hl 0 rfl) ?_
      refine va_get (D := (dC, dI)) (ci := 0) (v := .int t_to) (C := RX0) (T := TX0) (N := 10) hx hb hts iX0_isProved_X0 hown hK hP 0 rfl rfl 5 (Nat.le_of_ble_eq_true rfl) (hts _ kX0_isProved_3) (fun _ h9 => h9) rfl dX0_isProved_18 ?_
      refine lv_aload_n hx hb dX0_isProved_21 rfl (lv_at hl 0 rfl) ?_
      refine va_get (D := (dC, dI)) (ci := 0) (v := .ref a_t_ranked) (C := RX0) (T := TX0) (N := 10) hx hb hts iX0_isProved_X0 hown hK hP 0 rfl rfl 0 (Nat.le_of_ble_eq_true rfl) (hts _ kX0_isProved_4) (fun _ h9 => h9) rfl dX0_isProved_22 ?_
      refine va_get (D := (dC, dI)) (ci := 2) (v := .int t_ranked_items) (C := RX2) (T := TX2) (N := 9) hx hb hts iX0_isProved_X2 hown hK hP 2 rfl rfl 4 (Nat.le_of_ble_eq_true rfl) (hts _ kX0_isProved_5) (fun _ h9 => h9) rfl dX0_isProved_25 ?_
      refine lv_iconst (v := 1) hx hb dX0_isProved_28 (by decide) ?_
      refine lv_isub hx hb dX0_isProved_29 ?_
      refine lv_icmp_ne (tgt := 37) hx hb dX0_isProved_30 (by decide) (fun c_3 => ?_) (fun c_3 => ?_)
      · replace h := h.2 c_3
        refine lv_iconst (v := 0) hx hb dX0_isProved_37 (by decide) ?_
        rw [← hQ]
        exact W.zret (v := (0 : Int32)) hx hb hr rfl (fun t ht hW => ⟨⟨(0 : Int32), (), rfl, h, x_end (w1 := [(a_t, .inr (0, [.ref a_t_ranked, .ref a_t_sets, .ref a_t_spare, .int t_most, .int t_from, .int t_to, .int t_steps, .int t_bestWeight, .int t_bestProfit, .long t_bestBits])), (a_t_sets, .inr (4, [.ref a_t_sets_weights, .ref a_t_sets_profits, .ref a_t_sets_bits, .int t_sets_size])), (a_t_ranked, .inr (2, [.ref a_t_ranked_itemAt, .ref a_t_ranked_placeOf, .ref a_t_ranked_weights, .ref a_t_ranked_profits, .int t_ranked_items, .int t_ranked_room, .int t_ranked_breakPlace, .int t_ranked_breakWeight, .int t_ranked_breakProfit]))]) hP hD hK [0, 1, 2] rfl (by decide) rfl ht hW⟩, hS.F ht⟩) hS.2.2 dX0_isProved_38
      · replace h := h.1 c_3
        exact C33  h _ _ _ (x_sub hP [0, 1, 2] rfl) (hD.sub [0, 1, 2] (by decide) rfl) hS (lv_sub hl [] rfl)

def wX1_sumOf_5_b (t_items : Int32) (p1 : Nat → Int32) (n_p1 : Nat) (post : Int64 → Prop) (K5 : Int64 → Int32 → Prop) (v2 : Int64) (v4 : Int32) : Prop :=
  (t_items ≤ v4 → post v2) ∧ (¬ t_items ≤ v4 → vp_in v4 n_p1 ∧ K5 (v2 + ((p1 (v4).toNatClampNeg)).toInt64) (v4 + (1 : Int32)))
def wX1_sumOf_5 (t_items : Int32) (p1 : Nat → Int32) (n_p1 : Nat) (post : Int64 → Prop) : Nat → Int64 → Int32 → Prop
  | 0 => fun _ _ => False
  | n + 1 => wX1_sumOf_5_b t_items p1 n_p1 post (wX1_sumOf_5 t_items p1 n_p1 post n)
/-- KnapsackCore$Load.sumOf([I)J -/
def wX1_sumOf (t_items : Int32) (p1 : Nat → Int32) (n_p1 : Nat) (post : Int64 → Prop)  : Prop :=
  ∃ n : Nat, wX1_sumOf_5 t_items p1 n_p1 post n (0 : Int64) (0 : Int32)
theorem kX1_sumOf_0 : Cond.fieldLink RX1 25 "KnapsackCore$Load" "items" "I" ∈ wsX1_sumOf := (List.mem_cons_of_mem _ (List.mem_append_left _ (List.mem_of_getElem? (i := 0) rfl)))
theorem iX1_sumOf_X1 : ∀ w ∈ u_ws RX1 TX1 6, w ∈ wsX1_sumOf := fun w h => (List.mem_cons_of_mem _ (List.mem_append_right _ h))
set_option maxHeartbeats 4000000 in
set_option maxRecDepth 100000 in
theorem mtX1_sumOf (l : Launch) (ad : (Nat → Nat) × (Nat → Nat)) (dC : Nat → ClassId) (dI : Nat → Nat → Nat) (cy : Nat → ClassId) (a_t a_t_weights a_t_profits a_p1 : Nat) (sz : Nat) (t_items t_room t_most t_steps : Int32) (p1 : Nat → Int32) (n_p1 : Nat) {post : Int64 → Prop} (h : wX1_sumOf t_items p1 n_p1 post) : xMl l yX1_sumOf wsX1_sumOf ({ frames := 0, cells := 0, slots := 0, locals := 0 } : Room) ad (dC, dI) vwCl (xT cy) [.ref a_t, .ref a_p1] [(a_t, .inr (1, [.ref a_t_weights, .ref a_t_profits, .int t_items, .int t_room, .int t_most, .int t_steps])), (a_p1, .inl (cy 0, n_p1, .inl p1))] sz (fun (r : Int64) (_ : Unit) => post r) (fun (_ : Unit) w => w = [(a_t, .inr (1, [.ref a_t_weights, .ref a_t_profits, .int t_items, .int t_room, .int t_most, .int t_steps])), (a_p1, .inl (cy 0, n_p1, .inl p1))]) 0 0 := by
  unfold xMl
  refine Met.ofW (cc := cX1_sumOf) (maxL := 5) (ret := (some .long)) (by decide +kernel) rfl ?_
  intro p e s m args below meth c s₁ B hml hv
  obtain ⟨rfl, hsz, hP, hK, hD0, hE⟩ := hv
  have hx := B.exec
  have hb := B.bytes
  have hr := B.returns
  have hts := atoms_spec (ws := wsX1_sumOf) B.pre
  have hown : s.vm.findClass RX1 = some m.cls := findClass_of_methodNamed B.named
  have hlocks := B.notSynchronized
  subst hsz
  have hD := hD0.self (sz := s.heap.size)
  generalize hAe : va_A [(a_t, .inr (1, [.ref a_t_weights, .ref a_t_profits, .int t_items, .int t_room, .int t_most, .int t_steps])), (a_p1, .inl (cy 0, n_p1, .inl p1))] s.heap.size = A at hD hE ⊢
  have hA : ∀ q : Nat, s.heap.size ≤ q → A q := fun q h => by rw [← hAe]; exact Or.inr h
  have hS : va_S A s.heap s.heap [] := va_S.rf
  have hl := lv_entry ([.ref a_t, .ref a_p1]) (n := 5) (Nat.le_of_ble_eq_true rfl)
  rw [lg_entry_eq]
  generalize (lg_sl ([.ref a_t, .ref a_p1]) ++ List.replicate (5 - (lg_sl ([.ref a_t, .ref a_p1])).length) Slot.unset).toArray = ls at hl ⊢
  have hl : lv_has ls 5 [(0, .ref a_t), (1, .ref a_p1)] := hl
  generalize hQ : MQ below _ _ s _ _ _ = Q
  generalize ([.ref a_t, .ref a_p1] : List Value).toArray = args at hts hQ ⊢
  clear B hD0 hAe
  have L5 : ∀ n : Nat, ∀ (v2 : Int64) (v4 : Int32), wX1_sumOf_5 t_items p1 n_p1 post n v2 v4 → ∀ (H : Heap) (locs : List Loc) (ls : Array Slot), va_P (dC, dI) vwCl [(a_t, .inr (1, [.ref a_t_weights, .ref a_t_profits, .int t_items, .int t_room, .int t_most, .int t_steps])), (a_p1, .inl (cy 0, n_p1, .inl p1))] H → va_D A [(a_t, .inr (1, [.ref a_t_weights, .ref a_t_profits, .int t_items, .int t_room, .int t_most, .int t_steps])), (a_p1, .inl (cy 0, n_p1, .inl p1))] → va_S A s.heap H locs → lv_has ls 5 [(0, .ref a_t), (1, .ref a_p1), (2, .long v2), (4, .int v4)] → W p l e (headSpec wsX1_sumOf ({ frames := 0, cells := 0, slots := 0, locals := 0 } : Room)).room s m args below meth c H locs 0 0 Q (F0 m 5 ls []) := by
    intro n
    induction n with
    | zero => intro v2 v4 h; exact False.elim h
    | succ n5 ih5 =>
      intro v2 v4 h H locs ls hP hD hS hl
      replace h : wX1_sumOf_5_b t_items p1 n_p1 post (wX1_sumOf_5 t_items p1 n_p1 post n5) v2 v4 := h
      refine lv_iload hx hb dX1_sumOf_5 (lv_at hl 3 rfl) ?_
      refine lv_aload_n hx hb dX1_sumOf_7 rfl (lv_at hl 0 rfl) ?_
      refine va_get (D := (dC, dI)) (ci := 1) (v := .int t_items) (C := RX1) (T := TX1) (N := 6) hx hb hts iX1_sumOf_X1 hown hK hP 0 rfl rfl 2 (Nat.le_of_ble_eq_true rfl) (hts _ kX1_sumOf_0) (fun _ h9 => h9) rfl dX1_sumOf_8 ?_
      refine lv_icmp_ge (tgt := 28) hx hb dX1_sumOf_11 (by decide) (fun c_1 => ?_) (fun c_1 => ?_)
      · replace h := h.1 c_1
        refine lv_lload_n hx hb dX1_sumOf_28 rfl (lv_at hl 2 rfl) ?_
        rw [← hQ]
        exact W.lret (v := v2) hx hb hr (fun t ht hW => ⟨⟨v2, (), rfl, h, x_end (w1 := [(a_t, .inr (1, [.ref a_t_weights, .ref a_t_profits, .int t_items, .int t_room, .int t_most, .int t_steps])), (a_p1, .inl (cy 0, n_p1, .inl p1))]) hP hD hK [0, 1] rfl (by decide) rfl ht hW⟩, hS.F ht⟩) hS.2.2 dX1_sumOf_29
      · replace h := h.2 c_1
        refine lv_lload_n hx hb dX1_sumOf_14 rfl (lv_at hl 2 rfl) ?_
        refine lv_aload_n hx hb dX1_sumOf_15 rfl (lv_at hl 1 rfl) ?_
        refine lv_iload hx hb dX1_sumOf_16 (lv_at hl 3 rfl) ?_
        refine va_iald (D := (dC, dI)) hx hb hK hP 1 0 rfl rfl h.1 dX1_sumOf_18 ?_
        replace h := h.2
        refine lv_i2l hx hb dX1_sumOf_19 rfl ?_
        refine lv_ladd hx hb dX1_sumOf_20 ?_
        refine lv_lstore_n (lv' := [(2, .long (v2 + ((p1 (v4).toNatClampNeg)).toInt64)), (0, .ref a_t), (1, .ref a_p1), (4, .int v4)]) hx hb dX1_sumOf_21 rfl hl (by decide) rfl (fun ls hl => ?_)
        refine lv_iinc (v := (v4 + (1 : Int32))) (lv' := [(4, .int (v4 + (1 : Int32))), (2, .long (v2 + ((p1 (v4).toNatClampNeg)).toInt64)), (0, .ref a_t), (1, .ref a_p1)]) hx hb dX1_sumOf_22 hl (k := 3) rfl rfl (by decide) rfl (fun ls hl => ?_)
        refine lv_goto (tgt := 5) hx hb dX1_sumOf_25 (by decide) ?_
        exact ih5 (v2 + ((p1 (v4).toNatClampNeg)).toInt64) (v4 + (1 : Int32)) h _ _ _ (x_sub hP [0, 1] rfl) (hD.sub [0, 1] (by decide) rfl) hS (lv_sub hl [2, 3, 1, 0] rfl)
  refine lv_lconst (v := 0) hx hb dX1_sumOf_0 (by decide) ?_
  refine lv_lstore_n (lv' := [(2, .long (0 : Int64)), (0, .ref a_t), (1, .ref a_p1)]) hx hb dX1_sumOf_1 rfl hl (by decide) rfl (fun ls hl => ?_)
  refine lv_iconst (v := 0) hx hb dX1_sumOf_2 (by decide) ?_
  refine lv_istore (lv' := [(4, .int (0 : Int32)), (2, .long (0 : Int64)), (0, .ref a_t), (1, .ref a_p1)]) hx hb dX1_sumOf_3 hl (by decide) rfl (fun ls hl => ?_)
  obtain ⟨n9, h⟩ := h
  exact L5 n9 (0 : Int64) (0 : Int32) h _ _ _ (x_sub hP [0, 1] rfl) (hD.sub [0, 1] (by decide) rfl) hS (lv_sub hl [2, 3, 1, 0] rfl)

theorem qX1_sumOf : yX1_sumOf.cls = RX1 ∧ yX1_sumOf.cls ≠ "java/lang/invoke/MethodHandle" ∧ yX1_sumOf.cls ≠ "java/lang/invoke/VarHandle" ∧ (parseMethodDescriptor yX1_sumOf.desc).map (fun d => d.parameters.length) = some 1 := by decide +kernel
/-- KnapsackCore$Load.allProfits()J -/
def wX1_allProfits (t_items : Int32) (t_profits : Nat → Int32) (post : Int64 → Prop)  : Prop :=
  wX1_sumOf t_items t_profits 60 (fun r5 => post r5)
theorem kX1_allProfits_0 : Cond.fieldLink RX1 15 "KnapsackCore$Load" "profits" "[I" ∈ wsX1_allProfits := (List.mem_cons_of_mem _ (List.mem_append_left _ (List.mem_of_getElem? (i := 0) rfl)))
theorem iX1_allProfits_X1 : ∀ w ∈ u_ws RX1 TX1 6, w ∈ wsX1_allProfits := fun w h => (List.mem_cons_of_mem _ (List.mem_append_right _ h))
set_option maxHeartbeats 4000000 in
set_option maxRecDepth 100000 in
theorem mtX1_allProfits (l : Launch) (ad : (Nat → Nat) × (Nat → Nat)) (dC : Nat → ClassId) (dI : Nat → Nat → Nat) (cy : Nat → ClassId) (a_t a_t_weights a_t_profits : Nat) (sz : Nat) (t_items t_room t_most t_steps : Int32) (t_profits : Nat → Int32) {post : Int64 → Prop} (h : wX1_allProfits t_items t_profits post) : xMl l yX1_allProfits wsX1_allProfits ({ frames := 1, cells := 0, slots := 0, locals := 24 } : Room) ad (dC, dI) vwCl (xT cy) [.ref a_t] [(a_t, .inr (1, [.ref a_t_weights, .ref a_t_profits, .int t_items, .int t_room, .int t_most, .int t_steps])), (a_t_profits, .inl (cy 0, 60, .inl t_profits))] sz (fun (r : Int64) (_ : Unit) => post r) (fun (_ : Unit) w => w = [(a_t, .inr (1, [.ref a_t_weights, .ref a_t_profits, .int t_items, .int t_room, .int t_most, .int t_steps])), (a_t_profits, .inl (cy 0, 60, .inl t_profits))]) 0 0 := by
  unfold xMl
  refine Met.ofW (cc := cX1_allProfits) (maxL := 1) (ret := (some .long)) (by decide +kernel) rfl ?_
  intro p e s m args below meth c s₁ B hml hv
  obtain ⟨rfl, hsz, hP, hK, hD0, hE⟩ := hv
  have hx := B.exec
  have hb := B.bytes
  have hr := B.returns
  have hts := atoms_spec (ws := wsX1_allProfits) B.pre
  have hown : s.vm.findClass RX1 = some m.cls := findClass_of_methodNamed B.named
  have hlocks := B.notSynchronized
  subst hsz
  have hD := hD0.self (sz := s.heap.size)
  generalize hAe : va_A [(a_t, .inr (1, [.ref a_t_weights, .ref a_t_profits, .int t_items, .int t_room, .int t_most, .int t_steps])), (a_t_profits, .inl (cy 0, 60, .inl t_profits))] s.heap.size = A at hD hE ⊢
  have hA : ∀ q : Nat, s.heap.size ≤ q → A q := fun q h => by rw [← hAe]; exact Or.inr h
  have hS : va_S A s.heap s.heap [] := va_S.rf
  have hl := lv_entry ([.ref a_t]) (n := 1) (Nat.le_of_ble_eq_true rfl)
  rw [lg_entry_eq]
  generalize (lg_sl ([.ref a_t]) ++ List.replicate (1 - (lg_sl ([.ref a_t])).length) Slot.unset).toArray = ls at hl ⊢
  have hl : lv_has ls 1 [(0, .ref a_t)] := hl
  generalize hQ : MQ below _ _ s _ _ _ = Q
  generalize ([.ref a_t] : List Value).toArray = args at hts hQ ⊢
  clear B hD0 hAe
  refine lv_aload_n hx hb dX1_allProfits_0 rfl (lv_at hl 0 rfl) ?_
  refine lv_aload_n hx hb dX1_allProfits_1 rfl (lv_at hl 0 rfl) ?_
  refine va_get (D := (dC, dI)) (ci := 1) (v := .ref a_t_profits) (C := RX1) (T := TX1) (N := 6) hx hb hts iX1_allProfits_X1 hown hK hP 0 rfl rfl 1 (Nat.le_of_ble_eq_true rfl) (hts _ kX1_allProfits_0) (fun _ h9 => h9) rfl dX1_allProfits_2 ?_
  refine xVl0 (As := [.ref a_t_profits]) (rest := []) ⟨hx, hb, hml, hown, hts⟩ (mtX1_sumOf l ad dC dI cy a_t a_t_weights a_t_profits a_t_profits _ t_items t_room t_most t_steps t_profits 60  h) (cwV 1 hts gX1_allProfits_X1_sumOf rfl rfl rfl qX1_sumOf ⟨Nat.le_of_ble_eq_true rfl, Nat.le_of_ble_eq_true rfl⟩) hE hK hP hD hS hA 1 0 rfl rfl rfl [0, 1] rfl (by decide) rfl hl.1 rfl (Nat.le_of_ble_eq_true rfl) dX1_allProfits_5 ⟨Nat.le_refl _, Nat.le_refl _⟩ (fun r5 H locs h hP hS => ?_)
  try dsimp only at h
  rw [← hQ]
  exact W.lret (v := r5) hx hb hr (fun t ht hW => ⟨⟨r5, (), rfl, h, x_end (w1 := [(a_t, .inr (1, [.ref a_t_weights, .ref a_t_profits, .int t_items, .int t_room, .int t_most, .int t_steps])), (a_t_profits, .inl (cy 0, 60, .inl t_profits))]) hP hD hK [0, 1] rfl (by decide) rfl ht hW⟩, hS.F ht⟩) hS.2.2 dX1_allProfits_8

/-- KnapsackCore$Load.allWeights()J -/
def wX1_allWeights (t_items : Int32) (t_weights : Nat → Int32) (post : Int64 → Prop)  : Prop :=
  wX1_sumOf t_items t_weights 60 (fun r5 => post r5)
theorem kX1_allWeights_0 : Cond.fieldLink RX1 9 "KnapsackCore$Load" "weights" "[I" ∈ wsX1_allWeights := (List.mem_cons_of_mem _ (List.mem_append_left _ (List.mem_of_getElem? (i := 0) rfl)))
theorem iX1_allWeights_X1 : ∀ w ∈ u_ws RX1 TX1 6, w ∈ wsX1_allWeights := fun w h => (List.mem_cons_of_mem _ (List.mem_append_right _ h))
set_option maxHeartbeats 4000000 in
set_option maxRecDepth 100000 in
theorem mtX1_allWeights (l : Launch) (ad : (Nat → Nat) × (Nat → Nat)) (dC : Nat → ClassId) (dI : Nat → Nat → Nat) (cy : Nat → ClassId) (a_t a_t_weights a_t_profits : Nat) (sz : Nat) (t_items t_room t_most t_steps : Int32) (t_weights : Nat → Int32) {post : Int64 → Prop} (h : wX1_allWeights t_items t_weights post) : xMl l yX1_allWeights wsX1_allWeights ({ frames := 1, cells := 0, slots := 0, locals := 24 } : Room) ad (dC, dI) vwCl (xT cy) [.ref a_t] [(a_t, .inr (1, [.ref a_t_weights, .ref a_t_profits, .int t_items, .int t_room, .int t_most, .int t_steps])), (a_t_weights, .inl (cy 0, 60, .inl t_weights))] sz (fun (r : Int64) (_ : Unit) => post r) (fun (_ : Unit) w => w = [(a_t, .inr (1, [.ref a_t_weights, .ref a_t_profits, .int t_items, .int t_room, .int t_most, .int t_steps])), (a_t_weights, .inl (cy 0, 60, .inl t_weights))]) 0 0 := by
  unfold xMl
  refine Met.ofW (cc := cX1_allWeights) (maxL := 1) (ret := (some .long)) (by decide +kernel) rfl ?_
  intro p e s m args below meth c s₁ B hml hv
  obtain ⟨rfl, hsz, hP, hK, hD0, hE⟩ := hv
  have hx := B.exec
  have hb := B.bytes
  have hr := B.returns
  have hts := atoms_spec (ws := wsX1_allWeights) B.pre
  have hown : s.vm.findClass RX1 = some m.cls := findClass_of_methodNamed B.named
  have hlocks := B.notSynchronized
  subst hsz
  have hD := hD0.self (sz := s.heap.size)
  generalize hAe : va_A [(a_t, .inr (1, [.ref a_t_weights, .ref a_t_profits, .int t_items, .int t_room, .int t_most, .int t_steps])), (a_t_weights, .inl (cy 0, 60, .inl t_weights))] s.heap.size = A at hD hE ⊢
  have hA : ∀ q : Nat, s.heap.size ≤ q → A q := fun q h => by rw [← hAe]; exact Or.inr h
  have hS : va_S A s.heap s.heap [] := va_S.rf
  have hl := lv_entry ([.ref a_t]) (n := 1) (Nat.le_of_ble_eq_true rfl)
  rw [lg_entry_eq]
  generalize (lg_sl ([.ref a_t]) ++ List.replicate (1 - (lg_sl ([.ref a_t])).length) Slot.unset).toArray = ls at hl ⊢
  have hl : lv_has ls 1 [(0, .ref a_t)] := hl
  generalize hQ : MQ below _ _ s _ _ _ = Q
  generalize ([.ref a_t] : List Value).toArray = args at hts hQ ⊢
  clear B hD0 hAe
  refine lv_aload_n hx hb dX1_allWeights_0 rfl (lv_at hl 0 rfl) ?_
  refine lv_aload_n hx hb dX1_allWeights_1 rfl (lv_at hl 0 rfl) ?_
  refine va_get (D := (dC, dI)) (ci := 1) (v := .ref a_t_weights) (C := RX1) (T := TX1) (N := 6) hx hb hts iX1_allWeights_X1 hown hK hP 0 rfl rfl 0 (Nat.le_of_ble_eq_true rfl) (hts _ kX1_allWeights_0) (fun _ h9 => h9) rfl dX1_allWeights_2 ?_
  refine xVl0 (As := [.ref a_t_weights]) (rest := []) ⟨hx, hb, hml, hown, hts⟩ (mtX1_sumOf l ad dC dI cy a_t a_t_weights a_t_profits a_t_weights _ t_items t_room t_most t_steps t_weights 60  h) (cwV 1 hts gX1_allWeights_X1_sumOf rfl rfl rfl qX1_sumOf ⟨Nat.le_of_ble_eq_true rfl, Nat.le_of_ble_eq_true rfl⟩) hE hK hP hD hS hA 1 0 rfl rfl rfl [0, 1] rfl (by decide) rfl hl.1 rfl (Nat.le_of_ble_eq_true rfl) dX1_allWeights_5 ⟨Nat.le_refl _, Nat.le_refl _⟩ (fun r5 H locs h hP hS => ?_)
  try dsimp only at h
  rw [← hQ]
  exact W.lret (v := r5) hx hb hr (fun t ht hW => ⟨⟨r5, (), rfl, h, x_end (w1 := [(a_t, .inr (1, [.ref a_t_weights, .ref a_t_profits, .int t_items, .int t_room, .int t_most, .int t_steps])), (a_t_weights, .inl (cy 0, 60, .inl t_weights))]) hP hD hK [0, 1] rfl (by decide) rfl ht hW⟩, hS.F ht⟩) hS.2.2 dX1_allWeights_8

/-- KnapsackCore.canBeItemsNumber(J)Z -/
def wX6_canBeItemsNumber (post : Int32 → Prop) (v0 : Int64) : Prop :=
  (v0 < (1 : Int64) → post (0 : Int32)) ∧ (¬ v0 < (1 : Int64) → ((999999999 : Int64) < v0 → post (0 : Int32)) ∧ (¬ (999999999 : Int64) < v0 → post (1 : Int32)))
theorem kX6_canBeItemsNumber_0 : Cond.constantLong RX6 325 (999999999) ∈ wsX6_canBeItemsNumber := (List.mem_cons_of_mem _ (List.mem_of_getElem? (i := 0) rfl))
set_option maxHeartbeats 4000000 in
set_option maxRecDepth 100000 in
theorem mtX6_canBeItemsNumber (l : Launch) (ad : (Nat → Nat) × (Nat → Nat)) (dC : Nat → ClassId) (dI : Nat → Nat → Nat) (cy : Nat → ClassId) (sz : Nat) (v0 : Int64) {post : Int32 → Prop} (h : wX6_canBeItemsNumber post v0) : xMi l yX6_canBeItemsNumber wsX6_canBeItemsNumber ({ frames := 0, cells := 0, slots := 0, locals := 0 } : Room) ad (dC, dI) vwCl (xT cy) [.long v0] [] sz (fun (r : Int32) (_ : Unit) => post r) (fun (_ : Unit) w => w = []) 0 0 := by
  unfold xMi
  refine Met.ofW (cc := cX6_canBeItemsNumber) (maxL := 2) (ret := (some .boolean)) (by decide +kernel) rfl ?_
  intro p e s m args below meth c s₁ B hml hv
  obtain ⟨rfl, hsz, hP, hK, hD0, hE⟩ := hv
  have hx := B.exec
  have hb := B.bytes
  have hr := B.returns
  have hts := atoms_spec (ws := wsX6_canBeItemsNumber) B.pre
  have hown : s.vm.findClass RX6 = some m.cls := findClass_of_methodNamed B.named
  have hlocks := B.notSynchronized
  subst hsz
  have hD := hD0.self (sz := s.heap.size)
  generalize hAe : va_A [] s.heap.size = A at hD hE ⊢
  have hA : ∀ q : Nat, s.heap.size ≤ q → A q := fun q h => by rw [← hAe]; exact Or.inr h
  have hS : va_S A s.heap s.heap [] := va_S.rf
  have hl := lv_entry ([.long v0]) (n := 2) (Nat.le_of_ble_eq_true rfl)
  rw [lg_entry_eq]
  generalize (lg_sl ([.long v0]) ++ List.replicate (2 - (lg_sl ([.long v0])).length) Slot.unset).toArray = ls at hl ⊢
  have hl : lv_has ls 2 [(0, .long v0)] := hl
  generalize hQ : MQ below _ _ s _ _ _ = Q
  generalize ([.long v0] : List Value).toArray = args at hts hQ ⊢
  clear B hD0 hAe
  refine lv_lload_n hx hb dX6_canBeItemsNumber_0 rfl (lv_at hl 0 rfl) ?_
  refine lv_lconst (v := 1) hx hb dX6_canBeItemsNumber_1 (by decide) ?_
  refine W.lcmp hx hb dX6_canBeItemsNumber_2 ?_
  refine lv_if_lt (tgt := 18) hx hb dX6_canBeItemsNumber_3 (by decide) (fun c_1 => ?_) (fun c_1 => ?_)
  · replace h := h.1 ((lg_cmp_lt _ _).mp c_1)
    refine lv_iconst (v := 0) hx hb dX6_canBeItemsNumber_18 (by decide) ?_
    rw [← hQ]
    exact W.zret (v := (0 : Int32)) hx hb hr rfl (fun t ht hW => ⟨⟨(0 : Int32), (), rfl, h, x_end (w1 := []) hP hD hK [] rfl (by decide) rfl ht hW⟩, hS.F ht⟩) hS.2.2 dX6_canBeItemsNumber_19
  · replace h := h.2 (fun z9 => c_1 ((lg_cmp_lt _ _).mpr z9))
    refine lv_lload_n hx hb dX6_canBeItemsNumber_6 rfl (lv_at hl 0 rfl) ?_
    refine lv_ldc2 hx hb hown (hts _ kX6_canBeItemsNumber_0) dX6_canBeItemsNumber_7 ?_
    refine W.lcmp hx hb dX6_canBeItemsNumber_10 ?_
    refine lv_if_gt (tgt := 18) hx hb dX6_canBeItemsNumber_11 (by decide) (fun c_2 => ?_) (fun c_2 => ?_)
    · replace h := h.1 ((lg_cmp_gt _ _).mp c_2)
      refine lv_iconst (v := 0) hx hb dX6_canBeItemsNumber_18 (by decide) ?_
      rw [← hQ]
      exact W.zret (v := (0 : Int32)) hx hb hr rfl (fun t ht hW => ⟨⟨(0 : Int32), (), rfl, h, x_end (w1 := []) hP hD hK [] rfl (by decide) rfl ht hW⟩, hS.F ht⟩) hS.2.2 dX6_canBeItemsNumber_19
    · replace h := h.2 (fun z9 => c_2 ((lg_cmp_gt _ _).mpr z9))
      refine lv_iconst (v := 1) hx hb dX6_canBeItemsNumber_14 (by decide) ?_
      refine lv_goto (tgt := 19) hx hb dX6_canBeItemsNumber_15 (by decide) ?_
      rw [← hQ]
      exact W.zret (v := (1 : Int32)) hx hb hr rfl (fun t ht hW => ⟨⟨(1 : Int32), (), rfl, h, x_end (w1 := []) hP hD hK [] rfl (by decide) rfl ht hW⟩, hS.F ht⟩) hS.2.2 dX6_canBeItemsNumber_19

theorem qX1_allProfits : yX1_allProfits.cls = RX1 ∧ yX1_allProfits.cls ≠ "java/lang/invoke/MethodHandle" ∧ yX1_allProfits.cls ≠ "java/lang/invoke/VarHandle" ∧ (parseMethodDescriptor yX1_allProfits.desc).map (fun d => d.parameters.length) = some 0 := by decide +kernel
theorem qX1_allWeights : yX1_allWeights.cls = RX1 ∧ yX1_allWeights.cls ≠ "java/lang/invoke/MethodHandle" ∧ yX1_allWeights.cls ≠ "java/lang/invoke/VarHandle" ∧ (parseMethodDescriptor yX1_allWeights.desc).map (fun d => d.parameters.length) = some 0 := by decide +kernel
theorem qX6_canBeItemsNumber : yX6_canBeItemsNumber.cls = RX6 ∧ yX6_canBeItemsNumber.cls ≠ "java/lang/invoke/MethodHandle" ∧ yX6_canBeItemsNumber.cls ≠ "java/lang/invoke/VarHandle" ∧ (parseMethodDescriptor yX6_canBeItemsNumber.desc).map (fun d => d.parameters.length) = some 1 := by decide +kernel
def wX1_canTake_43 (t_items : Int32) (t_weights t_profits : Nat → Int32) (post : Int32 → Prop) (v2 : Int32) (k0 : Int64) : Prop :=
  ((2147483647 : Int64) < (k0 + (v2).toInt64) → post (0 : Int32)) ∧ (¬ (2147483647 : Int64) < (k0 + (v2).toInt64) → post (1 : Int32))
def wX1_canTake_29 (t_items : Int32) (t_weights t_profits : Nat → Int32) (post : Int32 → Prop) (v1 v2 : Int32) (k0 : Int64) : Prop :=
  ((2147483647 : Int64) < (k0 + (v1).toInt64) → post (0 : Int32)) ∧ (¬ (2147483647 : Int64) < (k0 + (v1).toInt64) → wX1_allProfits t_items t_profits (fun r40 => wX1_canTake_43 t_items t_weights t_profits post v2 r40))
def wX1_canTake_22 (t_items : Int32) (t_weights t_profits : Nat → Int32) (post : Int32 → Prop) (v1 v2 k0 : Int32) : Prop :=
  (k0 = (0 : Int32) → post (0 : Int32)) ∧ (¬ k0 = (0 : Int32) → wX1_allWeights t_items t_weights (fun r26 => wX1_canTake_29 t_items t_weights t_profits post v1 v2 r26))
def wX1_canTake_14 (t_items : Int32) (t_weights t_profits : Nat → Int32) (post : Int32 → Prop) (v1 v2 k0 : Int32) : Prop :=
  (k0 = (0 : Int32) → post (0 : Int32)) ∧ (¬ k0 = (0 : Int32) → wX6_canBeItemsNumber (fun r19 => wX1_canTake_22 t_items t_weights t_profits post v1 v2 r19) ((v2).toInt64))
/-- KnapsackCore$Load.canTake(II)Z -/
def wX1_canTake (t_items : Int32) (t_weights t_profits : Nat → Int32) (post : Int32 → Prop) (v1 v2 : Int32) : Prop :=
  ((60 : Int32) ≤ t_items → post (0 : Int32)) ∧ (¬ (60 : Int32) ≤ t_items → wX6_canBeItemsNumber (fun r11 => wX1_canTake_14 t_items t_weights t_profits post v1 v2 r11) ((v1).toInt64))
theorem kX1_canTake_0 : Cond.constantLong RX1 45 (2147483647) ∈ wsX1_canTake := (List.mem_cons_of_mem _ (List.mem_append_left _ (List.mem_of_getElem? (i := 1) rfl)))
theorem kX1_canTake_1 : Cond.fieldLink RX1 25 "KnapsackCore$Load" "items" "I" ∈ wsX1_canTake := (List.mem_cons_of_mem _ (List.mem_append_left _ (List.mem_of_getElem? (i := 0) rfl)))
theorem kX1_canTake_2 : Cond.initialized RX6 ∈ wsX1_canTake := (List.mem_cons_of_mem _ (List.mem_append_left _ (List.mem_of_getElem? (i := 3) rfl)))
theorem kX1_canTake_3 : Cond.static yX6_canBeItemsNumber ∈ wsX1_canTake := (List.mem_cons_of_mem _ (List.mem_append_left _ (List.mem_of_getElem? (i := 2) rfl)))
theorem iX1_canTake_X1 : ∀ w ∈ u_ws RX1 TX1 6, w ∈ wsX1_canTake := fun w h => (List.mem_cons_of_mem _ (List.mem_append_right _ h))
set_option maxHeartbeats 4000000 in
set_option maxRecDepth 100000 in
theorem mtX1_canTake (l : Launch) (ad : (Nat → Nat) × (Nat → Nat)) (dC : Nat → ClassId) (dI : Nat → Nat → Nat) (cy : Nat → ClassId) (a_t a_t_weights a_t_profits : Nat) (sz : Nat) (t_items t_room t_most t_steps : Int32) (t_weights t_profits : Nat → Int32) (v1 v2 : Int32) {post : Int32 → Prop} (h : wX1_canTake t_items t_weights t_profits post v1 v2) : xMi l yX1_canTake wsX1_canTake ({ frames := 2, cells := 0, slots := 0, locals := 44 } : Room) ad (dC, dI) vwCl (xT cy) [.ref a_t, .int v1, .int v2] [(a_t, .inr (1, [.ref a_t_weights, .ref a_t_profits, .int t_items, .int t_room, .int t_most, .int t_steps])), (a_t_weights, .inl (cy 0, 60, .inl t_weights)), (a_t_profits, .inl (cy 0, 60, .inl t_profits))] sz (fun (r : Int32) (_ : Unit) => post r) (fun (_ : Unit) w => w = [(a_t, .inr (1, [.ref a_t_weights, .ref a_t_profits, .int t_items, .int t_room, .int t_most, .int t_steps])), (a_t_weights, .inl (cy 0, 60, .inl t_weights)), (a_t_profits, .inl (cy 0, 60, .inl t_profits))]) 0 0 := by
  unfold xMi
  refine Met.ofW (cc := cX1_canTake) (maxL := 3) (ret := (some .boolean)) (by decide +kernel) rfl ?_
  intro p e s m args below meth c s₁ B hml hv
  obtain ⟨rfl, hsz, hP, hK, hD0, hE⟩ := hv
  have hx := B.exec
  have hb := B.bytes
  have hr := B.returns
  have hts := atoms_spec (ws := wsX1_canTake) B.pre
  have hown : s.vm.findClass RX1 = some m.cls := findClass_of_methodNamed B.named
  have hlocks := B.notSynchronized
  subst hsz
  have hD := hD0.self (sz := s.heap.size)
  generalize hAe : va_A [(a_t, .inr (1, [.ref a_t_weights, .ref a_t_profits, .int t_items, .int t_room, .int t_most, .int t_steps])), (a_t_weights, .inl (cy 0, 60, .inl t_weights)), (a_t_profits, .inl (cy 0, 60, .inl t_profits))] s.heap.size = A at hD hE ⊢
  have hA : ∀ q : Nat, s.heap.size ≤ q → A q := fun q h => by rw [← hAe]; exact Or.inr h
  have hS : va_S A s.heap s.heap [] := va_S.rf
  have hl := lv_entry ([.ref a_t, .int v1, .int v2]) (n := 3) (Nat.le_of_ble_eq_true rfl)
  rw [lg_entry_eq]
  generalize (lg_sl ([.ref a_t, .int v1, .int v2]) ++ List.replicate (3 - (lg_sl ([.ref a_t, .int v1, .int v2])).length) Slot.unset).toArray = ls at hl ⊢
  have hl : lv_has ls 3 [(0, .ref a_t), (1, .int v1), (2, .int v2)] := hl
  generalize hQ : MQ below _ _ s _ _ _ = Q
  generalize ([.ref a_t, .int v1, .int v2] : List Value).toArray = args at hts hQ ⊢
  clear B hD0 hAe
  refine lv_aload_n hx hb dX1_canTake_0 rfl (lv_at hl 0 rfl) ?_
  refine va_get (D := (dC, dI)) (ci := 1) (v := .int t_items) (C := RX1) (T := TX1) (N := 6) hx hb hts iX1_canTake_X1 hown hK hP 0 rfl rfl 2 (Nat.le_of_ble_eq_true rfl) (hts _ kX1_canTake_1) (fun _ h9 => h9) rfl dX1_canTake_1 ?_
  refine lv_bipush (v := 60) hx hb dX1_canTake_4 (by decide) ?_
  refine lv_icmp_ge (tgt := 57) hx hb dX1_canTake_6 (by decide) (fun c_1 => ?_) (fun c_1 => ?_)
  · replace h := h.1 c_1
    refine lv_iconst (v := 0) hx hb dX1_canTake_57 (by decide) ?_
    rw [← hQ]
    exact W.zret (v := (0 : Int32)) hx hb hr rfl (fun t ht hW => ⟨⟨(0 : Int32), (), rfl, h, x_end (w1 := [(a_t, .inr (1, [.ref a_t_weights, .ref a_t_profits, .int t_items, .int t_room, .int t_most, .int t_steps])), (a_t_weights, .inl (cy 0, 60, .inl t_weights)), (a_t_profits, .inl (cy 0, 60, .inl t_profits))]) hP hD hK [0, 1, 2] rfl (by decide) rfl ht hW⟩, hS.F ht⟩) hS.2.2 dX1_canTake_58
  · replace h := h.2 c_1
    refine lv_iload_n hx hb dX1_canTake_9 rfl (lv_at hl 1 rfl) ?_
    refine lv_i2l hx hb dX1_canTake_10 rfl ?_
    refine xNi0 (As := [.long ((v1).toInt64)]) (rest := []) ⟨hx, hb, hml, hown, hts⟩ (mtX6_canBeItemsNumber l ad dC dI cy  _  ((v1).toInt64) h) ⟨va_cnB 1 hts gX1_canTake_X6_canBeItemsNumber_n37 rfl rfl rfl (hE.1 _ (List.mem_of_getElem? (i := 8) rfl)) (hts _ kX1_canTake_2) qX6_canBeItemsNumber.2 ⟨Nat.le_of_ble_eq_true rfl, Nat.le_of_ble_eq_true rfl⟩, hts _ kX1_canTake_3, trivial⟩ hE hK hP hD hS hA [] rfl (by decide) rfl hl.1 rfl (Nat.le_of_ble_eq_true rfl) dX1_canTake_11 ⟨Nat.le_refl _, Nat.le_refl _⟩ (fun r11 H locs h hP hS => ?_)
    try dsimp only at h
    refine lv_if_eq (tgt := 57) hx hb dX1_canTake_14 (by decide) (fun c_2 => ?_) (fun c_2 => ?_)
    · replace h := h.1 c_2
      refine lv_iconst (v := 0) hx hb dX1_canTake_57 (by decide) ?_
      rw [← hQ]
      exact W.zret (v := (0 : Int32)) hx hb hr rfl (fun t ht hW => ⟨⟨(0 : Int32), (), rfl, h, x_end (w1 := [(a_t, .inr (1, [.ref a_t_weights, .ref a_t_profits, .int t_items, .int t_room, .int t_most, .int t_steps])), (a_t_weights, .inl (cy 0, 60, .inl t_weights)), (a_t_profits, .inl (cy 0, 60, .inl t_profits))]) hP hD hK [0, 1, 2] rfl (by decide) rfl ht hW⟩, hS.F ht⟩) hS.2.2 dX1_canTake_58
    · replace h := h.2 c_2
      refine lv_iload_n hx hb dX1_canTake_17 rfl (lv_at hl 2 rfl) ?_
      refine lv_i2l hx hb dX1_canTake_18 rfl ?_
      refine xNi0 (As := [.long ((v2).toInt64)]) (rest := []) ⟨hx, hb, hml, hown, hts⟩ (mtX6_canBeItemsNumber l ad dC dI cy  _  ((v2).toInt64) h) ⟨va_cnB 1 hts gX1_canTake_X6_canBeItemsNumber_n37 rfl rfl rfl (hE.1 _ (List.mem_of_getElem? (i := 8) rfl)) (hts _ kX1_canTake_2) qX6_canBeItemsNumber.2 ⟨Nat.le_of_ble_eq_true rfl, Nat.le_of_ble_eq_true rfl⟩, hts _ kX1_canTake_3, trivial⟩ hE hK hP hD hS hA [] rfl (by decide) rfl hl.1 rfl (Nat.le_of_ble_eq_true rfl) dX1_canTake_19 ⟨Nat.le_refl _, Nat.le_refl _⟩ (fun r19 H locs h hP hS => ?_)
      try dsimp only at h
      refine lv_if_eq (tgt := 57) hx hb dX1_canTake_22 (by decide) (fun c_3 => ?_) (fun c_3 => ?_)
      · replace h := h.1 c_3
        refine lv_iconst (v := 0) hx hb dX1_canTake_57 (by decide) ?_
        rw [← hQ]
        exact W.zret (v := (0 : Int32)) hx hb hr rfl (fun t ht hW => ⟨⟨(0 : Int32), (), rfl, h, x_end (w1 := [(a_t, .inr (1, [.ref a_t_weights, .ref a_t_profits, .int t_items, .int t_room, .int t_most, .int t_steps])), (a_t_weights, .inl (cy 0, 60, .inl t_weights)), (a_t_profits, .inl (cy 0, 60, .inl t_profits))]) hP hD hK [0, 1, 2] rfl (by decide) rfl ht hW⟩, hS.F ht⟩) hS.2.2 dX1_canTake_58
      · replace h := h.2 c_3
        refine lv_aload_n hx hb dX1_canTake_25 rfl (lv_at hl 0 rfl) ?_
        refine xVl0 (As := []) (rest := []) ⟨hx, hb, hml, hown, hts⟩ (mtX1_allWeights l ad dC dI cy a_t a_t_weights a_t_profits _ t_items t_room t_most t_steps t_weights  h) (cwV 0 hts gX1_canTake_X1_allWeights rfl rfl rfl qX1_allWeights ⟨Nat.le_of_ble_eq_true rfl, Nat.le_of_ble_eq_true rfl⟩) hE hK hP hD hS hA 1 0 rfl rfl rfl [0, 1] rfl (by decide) rfl hl.1 rfl (Nat.le_of_ble_eq_true rfl) dX1_canTake_26 ⟨Nat.le_refl _, Nat.le_refl _⟩ (fun r26 H locs h hP hS => ?_)
        try dsimp only at h
        refine lv_iload_n hx hb dX1_canTake_29 rfl (lv_at hl 1 rfl) ?_
        refine lv_i2l hx hb dX1_canTake_30 rfl ?_
        refine lv_ladd hx hb dX1_canTake_31 ?_
        refine lv_ldc2 hx hb hown (hts _ kX1_canTake_0) dX1_canTake_32 ?_
        refine W.lcmp hx hb dX1_canTake_35 ?_
        refine lv_if_gt (tgt := 57) hx hb dX1_canTake_36 (by decide) (fun c_4 => ?_) (fun c_4 => ?_)
        · replace h := h.1 ((lg_cmp_gt _ _).mp c_4)
          refine lv_iconst (v := 0) hx hb dX1_canTake_57 (by decide) ?_
          rw [← hQ]
          exact W.zret (v := (0 : Int32)) hx hb hr rfl (fun t ht hW => ⟨⟨(0 : Int32), (), rfl, h, x_end (w1 := [(a_t, .inr (1, [.ref a_t_weights, .ref a_t_profits, .int t_items, .int t_room, .int t_most, .int t_steps])), (a_t_weights, .inl (cy 0, 60, .inl t_weights)), (a_t_profits, .inl (cy 0, 60, .inl t_profits))]) hP hD hK [0, 1, 2] rfl (by decide) rfl ht hW⟩, hS.F ht⟩) hS.2.2 dX1_canTake_58
        · replace h := h.2 (fun z9 => c_4 ((lg_cmp_gt _ _).mpr z9))
          refine lv_aload_n hx hb dX1_canTake_39 rfl (lv_at hl 0 rfl) ?_
          refine xVl0 (As := []) (rest := []) ⟨hx, hb, hml, hown, hts⟩ (mtX1_allProfits l ad dC dI cy a_t a_t_weights a_t_profits _ t_items t_room t_most t_steps t_profits  h) (cwV 0 hts gX1_canTake_X1_allProfits rfl rfl rfl qX1_allProfits ⟨Nat.le_of_ble_eq_true rfl, Nat.le_of_ble_eq_true rfl⟩) hE hK hP hD hS hA 1 0 rfl rfl rfl [0, 2] rfl (by decide) rfl hl.1 rfl (Nat.le_of_ble_eq_true rfl) dX1_canTake_40 ⟨Nat.le_refl _, Nat.le_refl _⟩ (fun r40 H locs h hP hS => ?_)
          try dsimp only at h
          refine lv_iload_n hx hb dX1_canTake_43 rfl (lv_at hl 2 rfl) ?_
          refine lv_i2l hx hb dX1_canTake_44 rfl ?_
          refine lv_ladd hx hb dX1_canTake_45 ?_
          refine lv_ldc2 hx hb hown (hts _ kX1_canTake_0) dX1_canTake_46 ?_
          refine W.lcmp hx hb dX1_canTake_49 ?_
          refine lv_if_gt (tgt := 57) hx hb dX1_canTake_50 (by decide) (fun c_5 => ?_) (fun c_5 => ?_)
          · replace h := h.1 ((lg_cmp_gt _ _).mp c_5)
            refine lv_iconst (v := 0) hx hb dX1_canTake_57 (by decide) ?_
            rw [← hQ]
            exact W.zret (v := (0 : Int32)) hx hb hr rfl (fun t ht hW => ⟨⟨(0 : Int32), (), rfl, h, x_end (w1 := [(a_t, .inr (1, [.ref a_t_weights, .ref a_t_profits, .int t_items, .int t_room, .int t_most, .int t_steps])), (a_t_weights, .inl (cy 0, 60, .inl t_weights)), (a_t_profits, .inl (cy 0, 60, .inl t_profits))]) hP hD hK [0, 1, 2] rfl (by decide) rfl ht hW⟩, hS.F ht⟩) hS.2.2 dX1_canTake_58
          · replace h := h.2 (fun z9 => c_5 ((lg_cmp_gt _ _).mpr z9))
            refine lv_iconst (v := 1) hx hb dX1_canTake_53 (by decide) ?_
            refine lv_goto (tgt := 58) hx hb dX1_canTake_54 (by decide) ?_
            rw [← hQ]
            exact W.zret (v := (1 : Int32)) hx hb hr rfl (fun t ht hW => ⟨⟨(1 : Int32), (), rfl, h, x_end (w1 := [(a_t, .inr (1, [.ref a_t_weights, .ref a_t_profits, .int t_items, .int t_room, .int t_most, .int t_steps])), (a_t_weights, .inl (cy 0, 60, .inl t_weights)), (a_t_profits, .inl (cy 0, 60, .inl t_profits))]) hP hD hK [0, 1, 2] rfl (by decide) rfl ht hW⟩, hS.F ht⟩) hS.2.2 dX1_canTake_58

/-- KnapsackCore$Load.copyFrom(LKnapsackCore$Load;)V -/
def wX1_copyFrom (p1_items p1_room p1_most p1_steps : Int32) (p1_weights p1_profits : Nat → Int32) (post : Int32 → Int32 → Int32 → Int32 → (Nat → Int32) → (Nat → Int32) → Prop) (t_items t_room t_most t_steps : Int32) (t_weights t_profits : Nat → Int32) : Prop :=
  ¬ p1_items < (0 : Int32) ∧ ((0 : Int32)).toNatClampNeg + (p1_items).toNatClampNeg ≤ 60 ∧ ((0 : Int32)).toNatClampNeg + (p1_items).toNatClampNeg ≤ 60 ∧ ¬ p1_items < (0 : Int32) ∧ ((0 : Int32)).toNatClampNeg + (p1_items).toNatClampNeg ≤ 60 ∧ ((0 : Int32)).toNatClampNeg + (p1_items).toNatClampNeg ≤ 60 ∧ post p1_items p1_room p1_most p1_steps (va_cpy p1_weights t_weights ((0 : Int32)).toNatClampNeg ((0 : Int32)).toNatClampNeg (p1_items).toNatClampNeg) (va_cpy p1_profits t_profits ((0 : Int32)).toNatClampNeg ((0 : Int32)).toNatClampNeg (p1_items).toNatClampNeg)
theorem kX1_copyFrom_0 : Cond.fieldLink RX1 9 "KnapsackCore$Load" "weights" "[I" ∈ wsX1_copyFrom := (List.mem_cons_of_mem _ (List.mem_append_left _ (List.mem_of_getElem? (i := 0) rfl)))
theorem kX1_copyFrom_1 : Cond.fieldLink RX1 25 "KnapsackCore$Load" "items" "I" ∈ wsX1_copyFrom := (List.mem_cons_of_mem _ (List.mem_append_left _ (List.mem_of_getElem? (i := 1) rfl)))
theorem kX1_copyFrom_2 : Cond.methodLink RX1 28 arraycopyName ∈ wsX1_copyFrom := (List.mem_cons_of_mem _ (List.mem_append_left _ (List.mem_of_getElem? (i := 2) rfl)))
theorem kX1_copyFrom_3 : Cond.native arraycopyName ∈ wsX1_copyFrom := (List.mem_cons_of_mem _ (List.mem_append_left _ (List.mem_of_getElem? (i := 3) rfl)))
theorem kX1_copyFrom_4 : Cond.static arraycopyName ∈ wsX1_copyFrom := (List.mem_cons_of_mem _ (List.mem_append_left _ (List.mem_of_getElem? (i := 4) rfl)))
theorem kX1_copyFrom_5 : Cond.initialized "java/lang/System" ∈ wsX1_copyFrom := (List.mem_cons_of_mem _ (List.mem_append_left _ (List.mem_of_getElem? (i := 5) rfl)))
theorem kX1_copyFrom_6 : Cond.fieldLink RX1 15 "KnapsackCore$Load" "profits" "[I" ∈ wsX1_copyFrom := (List.mem_cons_of_mem _ (List.mem_append_left _ (List.mem_of_getElem? (i := 6) rfl)))
theorem kX1_copyFrom_7 : Cond.fieldLink RX1 18 "KnapsackCore$Load" "room" "I" ∈ wsX1_copyFrom := (List.mem_cons_of_mem _ (List.mem_append_left _ (List.mem_of_getElem? (i := 7) rfl)))
theorem kX1_copyFrom_8 : Cond.fieldLink RX1 22 "KnapsackCore$Load" "most" "I" ∈ wsX1_copyFrom := (List.mem_cons_of_mem _ (List.mem_append_left _ (List.mem_of_getElem? (i := 8) rfl)))
theorem kX1_copyFrom_9 : Cond.fieldLink RX1 34 "KnapsackCore$Load" "steps" "I" ∈ wsX1_copyFrom := (List.mem_cons_of_mem _ (List.mem_append_left _ (List.mem_of_getElem? (i := 9) rfl)))
theorem iX1_copyFrom_X1 : ∀ w ∈ u_ws RX1 TX1 6, w ∈ wsX1_copyFrom := fun w h => (List.mem_cons_of_mem _ (List.mem_append_right _ h))
set_option maxHeartbeats 4000000 in
set_option maxRecDepth 100000 in
theorem mtX1_copyFrom (l : Launch) (ad : (Nat → Nat) × (Nat → Nat)) (dC : Nat → ClassId) (dI : Nat → Nat → Nat) (cy : Nat → ClassId) (a_t a_t_weights a_t_profits a_p1 a_p1_weights a_p1_profits : Nat) (sz : Nat) (t_items t_room t_most t_steps p1_items p1_room p1_most p1_steps : Int32) (p1_weights t_weights p1_profits t_profits : Nat → Int32) {post : Int32 → Int32 → Int32 → Int32 → (Nat → Int32) → (Nat → Int32) → Prop} (h : wX1_copyFrom p1_items p1_room p1_most p1_steps p1_weights p1_profits post t_items t_room t_most t_steps t_weights t_profits) : xMv l yX1_copyFrom wsX1_copyFrom ({ frames := 1, cells := 0, slots := 0, locals := 40 } : Room) ad (dC, dI) vwCl (xT cy) [.ref a_t, .ref a_p1] [(a_t, .inr (1, [.ref a_t_weights, .ref a_t_profits, .int t_items, .int t_room, .int t_most, .int t_steps])), (a_p1, .inr (1, [.ref a_p1_weights, .ref a_p1_profits, .int p1_items, .int p1_room, .int p1_most, .int p1_steps])), (a_p1_weights, .inl (cy 0, 60, .inl p1_weights)), (a_t_weights, .inl (cy 0, 60, .inl t_weights)), (a_p1_profits, .inl (cy 0, 60, .inl p1_profits)), (a_t_profits, .inl (cy 0, 60, .inl t_profits))] sz (fun (u : Int32 × Int32 × Int32 × Int32 × (Nat → Int32) × (Nat → Int32)) => post u.1 u.2.1 u.2.2.1 u.2.2.2.1 u.2.2.2.2.1 u.2.2.2.2.2) (fun (u : Int32 × Int32 × Int32 × Int32 × (Nat → Int32) × (Nat → Int32)) w => w = [(a_t, .inr (1, [.ref a_t_weights, .ref a_t_profits, .int u.1, .int u.2.1, .int u.2.2.1, .int u.2.2.2.1])), (a_p1, .inr (1, [.ref a_p1_weights, .ref a_p1_profits, .int p1_items, .int p1_room, .int p1_most, .int p1_steps])), (a_p1_weights, .inl (cy 0, 60, .inl p1_weights)), (a_t_weights, .inl (cy 0, 60, .inl u.2.2.2.2.1)), (a_p1_profits, .inl (cy 0, 60, .inl p1_profits)), (a_t_profits, .inl (cy 0, 60, .inl u.2.2.2.2.2))]) 0 0 := by
  unfold xMv
  refine Met.ofW (cc := cX1_copyFrom) (maxL := 2) (ret := none) (by decide +kernel) rfl ?_
  intro p e s m args below meth c s₁ B hml hv
  obtain ⟨rfl, hsz, hP, hK, hD0, hE⟩ := hv
  have hx := B.exec
  have hb := B.bytes
  have hr := B.returns
  have hts := atoms_spec (ws := wsX1_copyFrom) B.pre
  have hown : s.vm.findClass RX1 = some m.cls := findClass_of_methodNamed B.named
  have hlocks := B.notSynchronized
  subst hsz
  have hD := hD0.self (sz := s.heap.size)
  generalize hAe : va_A [(a_t, .inr (1, [.ref a_t_weights, .ref a_t_profits, .int t_items, .int t_room, .int t_most, .int t_steps])), (a_p1, .inr (1, [.ref a_p1_weights, .ref a_p1_profits, .int p1_items, .int p1_room, .int p1_most, .int p1_steps])), (a_p1_weights, .inl (cy 0, 60, .inl p1_weights)), (a_t_weights, .inl (cy 0, 60, .inl t_weights)), (a_p1_profits, .inl (cy 0, 60, .inl p1_profits)), (a_t_profits, .inl (cy 0, 60, .inl t_profits))] s.heap.size = A at hD hE ⊢
  have hA : ∀ q : Nat, s.heap.size ≤ q → A q := fun q h => by rw [← hAe]; exact Or.inr h
  have hS : va_S A s.heap s.heap [] := va_S.rf
  have hl := lv_entry ([.ref a_t, .ref a_p1]) (n := 2) (Nat.le_of_ble_eq_true rfl)
  rw [lg_entry_eq]
  generalize (lg_sl ([.ref a_t, .ref a_p1]) ++ List.replicate (2 - (lg_sl ([.ref a_t, .ref a_p1])).length) Slot.unset).toArray = ls at hl ⊢
  have hl : lv_has ls 2 [(0, .ref a_t), (1, .ref a_p1)] := hl
  generalize hQ : MQ below _ _ s _ _ _ = Q
  generalize ([.ref a_t, .ref a_p1] : List Value).toArray = args at hts hQ ⊢
  clear B hD0 hAe
  refine lv_aload_n hx hb dX1_copyFrom_0 rfl (lv_at hl 1 rfl) ?_
  refine va_get (D := (dC, dI)) (ci := 1) (v := .ref a_p1_weights) (C := RX1) (T := TX1) (N := 6) hx hb hts iX1_copyFrom_X1 hown hK hP 1 rfl rfl 0 (Nat.le_of_ble_eq_true rfl) (hts _ kX1_copyFrom_0) (fun _ h9 => h9) rfl dX1_copyFrom_1 ?_
  refine lv_iconst (v := 0) hx hb dX1_copyFrom_4 (by decide) ?_
  refine lv_aload_n hx hb dX1_copyFrom_5 rfl (lv_at hl 0 rfl) ?_
  refine va_get (D := (dC, dI)) (ci := 1) (v := .ref a_t_weights) (C := RX1) (T := TX1) (N := 6) hx hb hts iX1_copyFrom_X1 hown hK hP 0 rfl rfl 0 (Nat.le_of_ble_eq_true rfl) (hts _ kX1_copyFrom_0) (fun _ h9 => h9) rfl dX1_copyFrom_6 ?_
  refine lv_iconst (v := 0) hx hb dX1_copyFrom_9 (by decide) ?_
  refine lv_aload_n hx hb dX1_copyFrom_10 rfl (lv_at hl 1 rfl) ?_
  refine va_get (D := (dC, dI)) (ci := 1) (v := .int p1_items) (C := RX1) (T := TX1) (N := 6) hx hb hts iX1_copyFrom_X1 hown hK hP 1 rfl rfl 2 (Nat.le_of_ble_eq_true rfl) (hts _ kX1_copyFrom_1) (fun _ h9 => h9) rfl dX1_copyFrom_11 ?_
  refine va_copyi (D := (dC, dI)) hx hb (hml.trans hl.1.symm) hown (hts _ kX1_copyFrom_2) (hts _ kX1_copyFrom_3) (hts _ kX1_copyFrom_4) (hts _ kX1_copyFrom_5) hK hP hD hS 2 3 0 0 rfl rfl rfl rfl rfl (by decide) (by decide) h.1 h.2.1 h.2.2.1 (fun _ _ => rfl) (Nat.le_of_ble_eq_true rfl) (Nat.le_of_ble_eq_true rfl) dX1_copyFrom_14 (fun H locs hP hD hS => ?_)
  replace h := h.2.2.2
  have hP : va_P (dC, dI) vwCl [(a_t, .inr (1, [.ref a_t_weights, .ref a_t_profits, .int t_items, .int t_room, .int t_most, .int t_steps])), (a_p1, .inr (1, [.ref a_p1_weights, .ref a_p1_profits, .int p1_items, .int p1_room, .int p1_most, .int p1_steps])), (a_p1_weights, .inl (cy 0, 60, .inl p1_weights)), (a_t_weights, .inl (cy 0, 60, .inl (va_cpy p1_weights t_weights ((0 : Int32)).toNatClampNeg ((0 : Int32)).toNatClampNeg (p1_items).toNatClampNeg))), (a_p1_profits, .inl (cy 0, 60, .inl p1_profits)), (a_t_profits, .inl (cy 0, 60, .inl t_profits))] H := hP
  have hD : va_D A [(a_t, .inr (1, [.ref a_t_weights, .ref a_t_profits, .int t_items, .int t_room, .int t_most, .int t_steps])), (a_p1, .inr (1, [.ref a_p1_weights, .ref a_p1_profits, .int p1_items, .int p1_room, .int p1_most, .int p1_steps])), (a_p1_weights, .inl (cy 0, 60, .inl p1_weights)), (a_t_weights, .inl (cy 0, 60, .inl (va_cpy p1_weights t_weights ((0 : Int32)).toNatClampNeg ((0 : Int32)).toNatClampNeg (p1_items).toNatClampNeg))), (a_p1_profits, .inl (cy 0, 60, .inl p1_profits)), (a_t_profits, .inl (cy 0, 60, .inl t_profits))] := hD
  refine lv_aload_n hx hb dX1_copyFrom_17 rfl (lv_at hl 1 rfl) ?_
  refine va_get (D := (dC, dI)) (ci := 1) (v := .ref a_p1_profits) (C := RX1) (T := TX1) (N := 6) hx hb hts iX1_copyFrom_X1 hown hK hP 1 rfl rfl 1 (Nat.le_of_ble_eq_true rfl) (hts _ kX1_copyFrom_6) (fun _ h9 => h9) rfl dX1_copyFrom_18 ?_
  refine lv_iconst (v := 0) hx hb dX1_copyFrom_21 (by decide) ?_
  refine lv_aload_n hx hb dX1_copyFrom_22 rfl (lv_at hl 0 rfl) ?_
  refine va_get (D := (dC, dI)) (ci := 1) (v := .ref a_t_profits) (C := RX1) (T := TX1) (N := 6) hx hb hts iX1_copyFrom_X1 hown hK hP 0 rfl rfl 1 (Nat.le_of_ble_eq_true rfl) (hts _ kX1_copyFrom_6) (fun _ h9 => h9) rfl dX1_copyFrom_23 ?_
  refine lv_iconst (v := 0) hx hb dX1_copyFrom_26 (by decide) ?_
  refine lv_aload_n hx hb dX1_copyFrom_27 rfl (lv_at hl 1 rfl) ?_
  refine va_get (D := (dC, dI)) (ci := 1) (v := .int p1_items) (C := RX1) (T := TX1) (N := 6) hx hb hts iX1_copyFrom_X1 hown hK hP 1 rfl rfl 2 (Nat.le_of_ble_eq_true rfl) (hts _ kX1_copyFrom_1) (fun _ h9 => h9) rfl dX1_copyFrom_28 ?_
  refine va_copyi (D := (dC, dI)) hx hb (hml.trans hl.1.symm) hown (hts _ kX1_copyFrom_2) (hts _ kX1_copyFrom_3) (hts _ kX1_copyFrom_4) (hts _ kX1_copyFrom_5) hK hP hD hS 4 5 0 0 rfl rfl rfl rfl rfl (by decide) (by decide) h.1 h.2.1 h.2.2.1 (fun _ _ => rfl) (Nat.le_of_ble_eq_true rfl) (Nat.le_of_ble_eq_true rfl) dX1_copyFrom_31 (fun H locs hP hD hS => ?_)
  replace h := h.2.2.2
  have hP : va_P (dC, dI) vwCl [(a_t, .inr (1, [.ref a_t_weights, .ref a_t_profits, .int t_items, .int t_room, .int t_most, .int t_steps])), (a_p1, .inr (1, [.ref a_p1_weights, .ref a_p1_profits, .int p1_items, .int p1_room, .int p1_most, .int p1_steps])), (a_p1_weights, .inl (cy 0, 60, .inl p1_weights)), (a_t_weights, .inl (cy 0, 60, .inl (va_cpy p1_weights t_weights ((0 : Int32)).toNatClampNeg ((0 : Int32)).toNatClampNeg (p1_items).toNatClampNeg))), (a_p1_profits, .inl (cy 0, 60, .inl p1_profits)), (a_t_profits, .inl (cy 0, 60, .inl (va_cpy p1_profits t_profits ((0 : Int32)).toNatClampNeg ((0 : Int32)).toNatClampNeg (p1_items).toNatClampNeg)))] H := hP
  have hD : va_D A [(a_t, .inr (1, [.ref a_t_weights, .ref a_t_profits, .int t_items, .int t_room, .int t_most, .int t_steps])), (a_p1, .inr (1, [.ref a_p1_weights, .ref a_p1_profits, .int p1_items, .int p1_room, .int p1_most, .int p1_steps])), (a_p1_weights, .inl (cy 0, 60, .inl p1_weights)), (a_t_weights, .inl (cy 0, 60, .inl (va_cpy p1_weights t_weights ((0 : Int32)).toNatClampNeg ((0 : Int32)).toNatClampNeg (p1_items).toNatClampNeg))), (a_p1_profits, .inl (cy 0, 60, .inl p1_profits)), (a_t_profits, .inl (cy 0, 60, .inl (va_cpy p1_profits t_profits ((0 : Int32)).toNatClampNeg ((0 : Int32)).toNatClampNeg (p1_items).toNatClampNeg)))] := hD
  refine lv_aload_n hx hb dX1_copyFrom_34 rfl (lv_at hl 0 rfl) ?_
  refine lv_aload_n hx hb dX1_copyFrom_35 rfl (lv_at hl 1 rfl) ?_
  refine va_get (D := (dC, dI)) (ci := 1) (v := .int p1_items) (C := RX1) (T := TX1) (N := 6) hx hb hts iX1_copyFrom_X1 hown hK hP 1 rfl rfl 2 (Nat.le_of_ble_eq_true rfl) (hts _ kX1_copyFrom_1) (fun _ h9 => h9) rfl dX1_copyFrom_36 ?_
  refine va_put (D := (dC, dI)) (ci := 1) (v := .int p1_items) (C := RX1) (T := TX1) (N := 6) hx hb hts iX1_copyFrom_X1 tyX1 tyX1_ok nmX1 hown hK hP hD hS 0 rfl rfl 2 (Nat.le_of_ble_eq_true rfl) (hts _ kX1_copyFrom_1) (fun _ h9 => h9) rfl (tyX1_ok 2 (Nat.le_of_ble_eq_true rfl)) rfl rfl (Nat.le_of_ble_eq_true rfl) dX1_copyFrom_39 (fun H locs hP hD hS => ?_)
  have hP : va_P (dC, dI) vwCl [(a_t, .inr (1, [.ref a_t_weights, .ref a_t_profits, .int p1_items, .int t_room, .int t_most, .int t_steps])), (a_p1, .inr (1, [.ref a_p1_weights, .ref a_p1_profits, .int p1_items, .int p1_room, .int p1_most, .int p1_steps])), (a_p1_weights, .inl (cy 0, 60, .inl p1_weights)), (a_t_weights, .inl (cy 0, 60, .inl (va_cpy p1_weights t_weights ((0 : Int32)).toNatClampNeg ((0 : Int32)).toNatClampNeg (p1_items).toNatClampNeg))), (a_p1_profits, .inl (cy 0, 60, .inl p1_profits)), (a_t_profits, .inl (cy 0, 60, .inl (va_cpy p1_profits t_profits ((0 : Int32)).toNatClampNeg ((0 : Int32)).toNatClampNeg (p1_items).toNatClampNeg)))] H := hP
  have hD : va_D A [(a_t, .inr (1, [.ref a_t_weights, .ref a_t_profits, .int p1_items, .int t_room, .int t_most, .int t_steps])), (a_p1, .inr (1, [.ref a_p1_weights, .ref a_p1_profits, .int p1_items, .int p1_room, .int p1_most, .int p1_steps])), (a_p1_weights, .inl (cy 0, 60, .inl p1_weights)), (a_t_weights, .inl (cy 0, 60, .inl (va_cpy p1_weights t_weights ((0 : Int32)).toNatClampNeg ((0 : Int32)).toNatClampNeg (p1_items).toNatClampNeg))), (a_p1_profits, .inl (cy 0, 60, .inl p1_profits)), (a_t_profits, .inl (cy 0, 60, .inl (va_cpy p1_profits t_profits ((0 : Int32)).toNatClampNeg ((0 : Int32)).toNatClampNeg (p1_items).toNatClampNeg)))] := hD
  refine lv_aload_n hx hb dX1_copyFrom_42 rfl (lv_at hl 0 rfl) ?_
  refine lv_aload_n hx hb dX1_copyFrom_43 rfl (lv_at hl 1 rfl) ?_
  refine va_get (D := (dC, dI)) (ci := 1) (v := .int p1_room) (C := RX1) (T := TX1) (N := 6) hx hb hts iX1_copyFrom_X1 hown hK hP 1 rfl rfl 3 (Nat.le_of_ble_eq_true rfl) (hts _ kX1_copyFrom_7) (fun _ h9 => h9) rfl dX1_copyFrom_44 ?_
  refine va_put (D := (dC, dI)) (ci := 1) (v := .int p1_room) (C := RX1) (T := TX1) (N := 6) hx hb hts iX1_copyFrom_X1 tyX1 tyX1_ok nmX1 hown hK hP hD hS 0 rfl rfl 3 (Nat.le_of_ble_eq_true rfl) (hts _ kX1_copyFrom_7) (fun _ h9 => h9) rfl (tyX1_ok 3 (Nat.le_of_ble_eq_true rfl)) rfl rfl (Nat.le_of_ble_eq_true rfl) dX1_copyFrom_47 (fun H locs hP hD hS => ?_)
  have hP : va_P (dC, dI) vwCl [(a_t, .inr (1, [.ref a_t_weights, .ref a_t_profits, .int p1_items, .int p1_room, .int t_most, .int t_steps])), (a_p1, .inr (1, [.ref a_p1_weights, .ref a_p1_profits, .int p1_items, .int p1_room, .int p1_most, .int p1_steps])), (a_p1_weights, .inl (cy 0, 60, .inl p1_weights)), (a_t_weights, .inl (cy 0, 60, .inl (va_cpy p1_weights t_weights ((0 : Int32)).toNatClampNeg ((0 : Int32)).toNatClampNeg (p1_items).toNatClampNeg))), (a_p1_profits, .inl (cy 0, 60, .inl p1_profits)), (a_t_profits, .inl (cy 0, 60, .inl (va_cpy p1_profits t_profits ((0 : Int32)).toNatClampNeg ((0 : Int32)).toNatClampNeg (p1_items).toNatClampNeg)))] H := hP
  have hD : va_D A [(a_t, .inr (1, [.ref a_t_weights, .ref a_t_profits, .int p1_items, .int p1_room, .int t_most, .int t_steps])), (a_p1, .inr (1, [.ref a_p1_weights, .ref a_p1_profits, .int p1_items, .int p1_room, .int p1_most, .int p1_steps])), (a_p1_weights, .inl (cy 0, 60, .inl p1_weights)), (a_t_weights, .inl (cy 0, 60, .inl (va_cpy p1_weights t_weights ((0 : Int32)).toNatClampNeg ((0 : Int32)).toNatClampNeg (p1_items).toNatClampNeg))), (a_p1_profits, .inl (cy 0, 60, .inl p1_profits)), (a_t_profits, .inl (cy 0, 60, .inl (va_cpy p1_profits t_profits ((0 : Int32)).toNatClampNeg ((0 : Int32)).toNatClampNeg (p1_items).toNatClampNeg)))] := hD
  refine lv_aload_n hx hb dX1_copyFrom_50 rfl (lv_at hl 0 rfl) ?_
  refine lv_aload_n hx hb dX1_copyFrom_51 rfl (lv_at hl 1 rfl) ?_
  refine va_get (D := (dC, dI)) (ci := 1) (v := .int p1_most) (C := RX1) (T := TX1) (N := 6) hx hb hts iX1_copyFrom_X1 hown hK hP 1 rfl rfl 4 (Nat.le_of_ble_eq_true rfl) (hts _ kX1_copyFrom_8) (fun _ h9 => h9) rfl dX1_copyFrom_52 ?_
  refine va_put (D := (dC, dI)) (ci := 1) (v := .int p1_most) (C := RX1) (T := TX1) (N := 6) hx hb hts iX1_copyFrom_X1 tyX1 tyX1_ok nmX1 hown hK hP hD hS 0 rfl rfl 4 (Nat.le_of_ble_eq_true rfl) (hts _ kX1_copyFrom_8) (fun _ h9 => h9) rfl (tyX1_ok 4 (Nat.le_of_ble_eq_true rfl)) rfl rfl (Nat.le_of_ble_eq_true rfl) dX1_copyFrom_55 (fun H locs hP hD hS => ?_)
  have hP : va_P (dC, dI) vwCl [(a_t, .inr (1, [.ref a_t_weights, .ref a_t_profits, .int p1_items, .int p1_room, .int p1_most, .int t_steps])), (a_p1, .inr (1, [.ref a_p1_weights, .ref a_p1_profits, .int p1_items, .int p1_room, .int p1_most, .int p1_steps])), (a_p1_weights, .inl (cy 0, 60, .inl p1_weights)), (a_t_weights, .inl (cy 0, 60, .inl (va_cpy p1_weights t_weights ((0 : Int32)).toNatClampNeg ((0 : Int32)).toNatClampNeg (p1_items).toNatClampNeg))), (a_p1_profits, .inl (cy 0, 60, .inl p1_profits)), (a_t_profits, .inl (cy 0, 60, .inl (va_cpy p1_profits t_profits ((0 : Int32)).toNatClampNeg ((0 : Int32)).toNatClampNeg (p1_items).toNatClampNeg)))] H := hP
  have hD : va_D A [(a_t, .inr (1, [.ref a_t_weights, .ref a_t_profits, .int p1_items, .int p1_room, .int p1_most, .int t_steps])), (a_p1, .inr (1, [.ref a_p1_weights, .ref a_p1_profits, .int p1_items, .int p1_room, .int p1_most, .int p1_steps])), (a_p1_weights, .inl (cy 0, 60, .inl p1_weights)), (a_t_weights, .inl (cy 0, 60, .inl (va_cpy p1_weights t_weights ((0 : Int32)).toNatClampNeg ((0 : Int32)).toNatClampNeg (p1_items).toNatClampNeg))), (a_p1_profits, .inl (cy 0, 60, .inl p1_profits)), (a_t_profits, .inl (cy 0, 60, .inl (va_cpy p1_profits t_profits ((0 : Int32)).toNatClampNeg ((0 : Int32)).toNatClampNeg (p1_items).toNatClampNeg)))] := hD
  refine lv_aload_n hx hb dX1_copyFrom_58 rfl (lv_at hl 0 rfl) ?_
  refine lv_aload_n hx hb dX1_copyFrom_59 rfl (lv_at hl 1 rfl) ?_
  refine va_get (D := (dC, dI)) (ci := 1) (v := .int p1_steps) (C := RX1) (T := TX1) (N := 6) hx hb hts iX1_copyFrom_X1 hown hK hP 1 rfl rfl 5 (Nat.le_of_ble_eq_true rfl) (hts _ kX1_copyFrom_9) (fun _ h9 => h9) rfl dX1_copyFrom_60 ?_
  refine va_put (D := (dC, dI)) (ci := 1) (v := .int p1_steps) (C := RX1) (T := TX1) (N := 6) hx hb hts iX1_copyFrom_X1 tyX1 tyX1_ok nmX1 hown hK hP hD hS 0 rfl rfl 5 (Nat.le_of_ble_eq_true rfl) (hts _ kX1_copyFrom_9) (fun _ h9 => h9) rfl (tyX1_ok 5 (Nat.le_of_ble_eq_true rfl)) rfl rfl (Nat.le_of_ble_eq_true rfl) dX1_copyFrom_63 (fun H locs hP hD hS => ?_)
  have hP : va_P (dC, dI) vwCl [(a_t, .inr (1, [.ref a_t_weights, .ref a_t_profits, .int p1_items, .int p1_room, .int p1_most, .int p1_steps])), (a_p1, .inr (1, [.ref a_p1_weights, .ref a_p1_profits, .int p1_items, .int p1_room, .int p1_most, .int p1_steps])), (a_p1_weights, .inl (cy 0, 60, .inl p1_weights)), (a_t_weights, .inl (cy 0, 60, .inl (va_cpy p1_weights t_weights ((0 : Int32)).toNatClampNeg ((0 : Int32)).toNatClampNeg (p1_items).toNatClampNeg))), (a_p1_profits, .inl (cy 0, 60, .inl p1_profits)), (a_t_profits, .inl (cy 0, 60, .inl (va_cpy p1_profits t_profits ((0 : Int32)).toNatClampNeg ((0 : Int32)).toNatClampNeg (p1_items).toNatClampNeg)))] H := hP
  have hD : va_D A [(a_t, .inr (1, [.ref a_t_weights, .ref a_t_profits, .int p1_items, .int p1_room, .int p1_most, .int p1_steps])), (a_p1, .inr (1, [.ref a_p1_weights, .ref a_p1_profits, .int p1_items, .int p1_room, .int p1_most, .int p1_steps])), (a_p1_weights, .inl (cy 0, 60, .inl p1_weights)), (a_t_weights, .inl (cy 0, 60, .inl (va_cpy p1_weights t_weights ((0 : Int32)).toNatClampNeg ((0 : Int32)).toNatClampNeg (p1_items).toNatClampNeg))), (a_p1_profits, .inl (cy 0, 60, .inl p1_profits)), (a_t_profits, .inl (cy 0, 60, .inl (va_cpy p1_profits t_profits ((0 : Int32)).toNatClampNeg ((0 : Int32)).toNatClampNeg (p1_items).toNatClampNeg)))] := hD
  rw [← hQ]
  exact W.vret hx hb hr (fun t ht hW => ⟨⟨(p1_items, p1_room, p1_most, p1_steps, (va_cpy p1_weights t_weights ((0 : Int32)).toNatClampNeg ((0 : Int32)).toNatClampNeg (p1_items).toNatClampNeg), (va_cpy p1_profits t_profits ((0 : Int32)).toNatClampNeg ((0 : Int32)).toNatClampNeg (p1_items).toNatClampNeg)), rfl, (by dsimp only; exact h), x_end (w1 := [(a_t, .inr (1, [.ref a_t_weights, .ref a_t_profits, .int p1_items, .int p1_room, .int p1_most, .int p1_steps])), (a_p1, .inr (1, [.ref a_p1_weights, .ref a_p1_profits, .int p1_items, .int p1_room, .int p1_most, .int p1_steps])), (a_p1_weights, .inl (cy 0, 60, .inl p1_weights)), (a_t_weights, .inl (cy 0, 60, .inl (va_cpy p1_weights t_weights ((0 : Int32)).toNatClampNeg ((0 : Int32)).toNatClampNeg (p1_items).toNatClampNeg))), (a_p1_profits, .inl (cy 0, 60, .inl p1_profits)), (a_t_profits, .inl (cy 0, 60, .inl (va_cpy p1_profits t_profits ((0 : Int32)).toNatClampNeg ((0 : Int32)).toNatClampNeg (p1_items).toNatClampNeg)))]) hP hD hK [0, 1, 2, 3, 4, 5] rfl (by decide) (by first | exact rfl | (dsimp only; exact rfl)) ht hW⟩, hS.F ht⟩) hS.2.2 dX1_copyFrom_66

/-- KnapsackCore$Load.has(I)Z -/
def wX1_has (t_items : Int32) (post : Int32 → Prop) (v1 : Int32) : Prop :=
  (v1 < (0 : Int32) → post (0 : Int32)) ∧ (¬ v1 < (0 : Int32) → (t_items ≤ v1 → post (0 : Int32)) ∧ (¬ t_items ≤ v1 → post (1 : Int32)))
theorem kX1_has_0 : Cond.fieldLink RX1 25 "KnapsackCore$Load" "items" "I" ∈ wsX1_has := (List.mem_cons_of_mem _ (List.mem_append_left _ (List.mem_of_getElem? (i := 0) rfl)))
theorem iX1_has_X1 : ∀ w ∈ u_ws RX1 TX1 6, w ∈ wsX1_has := fun w h => (List.mem_cons_of_mem _ (List.mem_append_right _ h))
set_option maxHeartbeats 4000000 in
set_option maxRecDepth 100000 in
theorem mtX1_has (l : Launch) (ad : (Nat → Nat) × (Nat → Nat)) (dC : Nat → ClassId) (dI : Nat → Nat → Nat) (cy : Nat → ClassId) (a_t a_t_weights a_t_profits : Nat) (sz : Nat) (t_items t_room t_most t_steps v1 : Int32) {post : Int32 → Prop} (h : wX1_has t_items post v1) : xMi l yX1_has wsX1_has ({ frames := 0, cells := 0, slots := 0, locals := 0 } : Room) ad (dC, dI) vwCl (xT cy) [.ref a_t, .int v1] [(a_t, .inr (1, [.ref a_t_weights, .ref a_t_profits, .int t_items, .int t_room, .int t_most, .int t_steps]))] sz (fun (r : Int32) (_ : Unit) => post r) (fun (_ : Unit) w => w = [(a_t, .inr (1, [.ref a_t_weights, .ref a_t_profits, .int t_items, .int t_room, .int t_most, .int t_steps]))]) 0 0 := by
  unfold xMi
  refine Met.ofW (cc := cX1_has) (maxL := 2) (ret := (some .boolean)) (by decide +kernel) rfl ?_
  intro p e s m args below meth c s₁ B hml hv
  obtain ⟨rfl, hsz, hP, hK, hD0, hE⟩ := hv
  have hx := B.exec
  have hb := B.bytes
  have hr := B.returns
  have hts := atoms_spec (ws := wsX1_has) B.pre
  have hown : s.vm.findClass RX1 = some m.cls := findClass_of_methodNamed B.named
  have hlocks := B.notSynchronized
  subst hsz
  have hD := hD0.self (sz := s.heap.size)
  generalize hAe : va_A [(a_t, .inr (1, [.ref a_t_weights, .ref a_t_profits, .int t_items, .int t_room, .int t_most, .int t_steps]))] s.heap.size = A at hD hE ⊢
  have hA : ∀ q : Nat, s.heap.size ≤ q → A q := fun q h => by rw [← hAe]; exact Or.inr h
  have hS : va_S A s.heap s.heap [] := va_S.rf
  have hl := lv_entry ([.ref a_t, .int v1]) (n := 2) (Nat.le_of_ble_eq_true rfl)
  rw [lg_entry_eq]
  generalize (lg_sl ([.ref a_t, .int v1]) ++ List.replicate (2 - (lg_sl ([.ref a_t, .int v1])).length) Slot.unset).toArray = ls at hl ⊢
  have hl : lv_has ls 2 [(0, .ref a_t), (1, .int v1)] := hl
  generalize hQ : MQ below _ _ s _ _ _ = Q
  generalize ([.ref a_t, .int v1] : List Value).toArray = args at hts hQ ⊢
  clear B hD0 hAe
  refine lv_iload_n hx hb dX1_has_0 rfl (lv_at hl 1 rfl) ?_
  refine lv_if_lt (tgt := 16) hx hb dX1_has_1 (by decide) (fun c_1 => ?_) (fun c_1 => ?_)
  · replace h := h.1 c_1
    refine lv_iconst (v := 0) hx hb dX1_has_16 (by decide) ?_
    rw [← hQ]
    exact W.zret (v := (0 : Int32)) hx hb hr rfl (fun t ht hW => ⟨⟨(0 : Int32), (), rfl, h, x_end (w1 := [(a_t, .inr (1, [.ref a_t_weights, .ref a_t_profits, .int t_items, .int t_room, .int t_most, .int t_steps]))]) hP hD hK [0] rfl (by decide) rfl ht hW⟩, hS.F ht⟩) hS.2.2 dX1_has_17
  · replace h := h.2 c_1
    refine lv_iload_n hx hb dX1_has_4 rfl (lv_at hl 1 rfl) ?_
    refine lv_aload_n hx hb dX1_has_5 rfl (lv_at hl 0 rfl) ?_
    refine va_get (D := (dC, dI)) (ci := 1) (v := .int t_items) (C := RX1) (T := TX1) (N := 6) hx hb hts iX1_has_X1 hown hK hP 0 rfl rfl 2 (Nat.le_of_ble_eq_true rfl) (hts _ kX1_has_0) (fun _ h9 => h9) rfl dX1_has_6 ?_
    refine lv_icmp_ge (tgt := 16) hx hb dX1_has_9 (by decide) (fun c_2 => ?_) (fun c_2 => ?_)
    · replace h := h.1 c_2
      refine lv_iconst (v := 0) hx hb dX1_has_16 (by decide) ?_
      rw [← hQ]
      exact W.zret (v := (0 : Int32)) hx hb hr rfl (fun t ht hW => ⟨⟨(0 : Int32), (), rfl, h, x_end (w1 := [(a_t, .inr (1, [.ref a_t_weights, .ref a_t_profits, .int t_items, .int t_room, .int t_most, .int t_steps]))]) hP hD hK [0] rfl (by decide) rfl ht hW⟩, hS.F ht⟩) hS.2.2 dX1_has_17
    · replace h := h.2 c_2
      refine lv_iconst (v := 1) hx hb dX1_has_12 (by decide) ?_
      refine lv_goto (tgt := 17) hx hb dX1_has_13 (by decide) ?_
      rw [← hQ]
      exact W.zret (v := (1 : Int32)) hx hb hr rfl (fun t ht hW => ⟨⟨(1 : Int32), (), rfl, h, x_end (w1 := [(a_t, .inr (1, [.ref a_t_weights, .ref a_t_profits, .int t_items, .int t_room, .int t_most, .int t_steps]))]) hP hD hK [0] rfl (by decide) rfl ht hW⟩, hS.F ht⟩) hS.2.2 dX1_has_17

/-- KnapsackCore$Load.isBetter(II)Z -/
def wX1_isBetter (t_profits t_weights : Nat → Int32) (post : Int32 → Prop) (v1 v2 : Int32) : Prop :=
  vp_in v1 60 ∧ vp_in v2 60 ∧ vp_in v2 60 ∧ vp_in v1 60 ∧ ((((t_profits (v1).toNatClampNeg)).toInt64 * ((t_weights (v2).toNatClampNeg)).toInt64) ≤ (((t_profits (v2).toNatClampNeg)).toInt64 * ((t_weights (v1).toNatClampNeg)).toInt64) → post (0 : Int32)) ∧ (¬ (((t_profits (v1).toNatClampNeg)).toInt64 * ((t_weights (v2).toNatClampNeg)).toInt64) ≤ (((t_profits (v2).toNatClampNeg)).toInt64 * ((t_weights (v1).toNatClampNeg)).toInt64) → post (1 : Int32))
theorem kX1_isBetter_0 : Cond.fieldLink RX1 15 "KnapsackCore$Load" "profits" "[I" ∈ wsX1_isBetter := (List.mem_cons_of_mem _ (List.mem_append_left _ (List.mem_of_getElem? (i := 0) rfl)))
theorem kX1_isBetter_1 : Cond.fieldLink RX1 9 "KnapsackCore$Load" "weights" "[I" ∈ wsX1_isBetter := (List.mem_cons_of_mem _ (List.mem_append_left _ (List.mem_of_getElem? (i := 1) rfl)))
theorem iX1_isBetter_X1 : ∀ w ∈ u_ws RX1 TX1 6, w ∈ wsX1_isBetter := fun w h => (List.mem_cons_of_mem _ (List.mem_append_right _ h))
set_option maxHeartbeats 4000000 in
set_option maxRecDepth 100000 in
theorem mtX1_isBetter (l : Launch) (ad : (Nat → Nat) × (Nat → Nat)) (dC : Nat → ClassId) (dI : Nat → Nat → Nat) (cy : Nat → ClassId) (a_t a_t_weights a_t_profits : Nat) (sz : Nat) (t_items t_room t_most t_steps : Int32) (t_profits t_weights : Nat → Int32) (v1 v2 : Int32) {post : Int32 → Prop} (h : wX1_isBetter t_profits t_weights post v1 v2) : xMi l yX1_isBetter wsX1_isBetter ({ frames := 0, cells := 0, slots := 0, locals := 0 } : Room) ad (dC, dI) vwCl (xT cy) [.ref a_t, .int v1, .int v2] [(a_t, .inr (1, [.ref a_t_weights, .ref a_t_profits, .int t_items, .int t_room, .int t_most, .int t_steps])), (a_t_profits, .inl (cy 0, 60, .inl t_profits)), (a_t_weights, .inl (cy 0, 60, .inl t_weights))] sz (fun (r : Int32) (_ : Unit) => post r) (fun (_ : Unit) w => w = [(a_t, .inr (1, [.ref a_t_weights, .ref a_t_profits, .int t_items, .int t_room, .int t_most, .int t_steps])), (a_t_profits, .inl (cy 0, 60, .inl t_profits)), (a_t_weights, .inl (cy 0, 60, .inl t_weights))]) 0 0 := by
  unfold xMi
  refine Met.ofW (cc := cX1_isBetter) (maxL := 3) (ret := (some .boolean)) (by decide +kernel) rfl ?_
  intro p e s m args below meth c s₁ B hml hv
  obtain ⟨rfl, hsz, hP, hK, hD0, hE⟩ := hv
  have hx := B.exec
  have hb := B.bytes
  have hr := B.returns
  have hts := atoms_spec (ws := wsX1_isBetter) B.pre
  have hown : s.vm.findClass RX1 = some m.cls := findClass_of_methodNamed B.named
  have hlocks := B.notSynchronized
  subst hsz
  have hD := hD0.self (sz := s.heap.size)
  generalize hAe : va_A [(a_t, .inr (1, [.ref a_t_weights, .ref a_t_profits, .int t_items, .int t_room, .int t_most, .int t_steps])), (a_t_profits, .inl (cy 0, 60, .inl t_profits)), (a_t_weights, .inl (cy 0, 60, .inl t_weights))] s.heap.size = A at hD hE ⊢
  have hA : ∀ q : Nat, s.heap.size ≤ q → A q := fun q h => by rw [← hAe]; exact Or.inr h
  have hS : va_S A s.heap s.heap [] := va_S.rf
  have hl := lv_entry ([.ref a_t, .int v1, .int v2]) (n := 3) (Nat.le_of_ble_eq_true rfl)
  rw [lg_entry_eq]
  generalize (lg_sl ([.ref a_t, .int v1, .int v2]) ++ List.replicate (3 - (lg_sl ([.ref a_t, .int v1, .int v2])).length) Slot.unset).toArray = ls at hl ⊢
  have hl : lv_has ls 3 [(0, .ref a_t), (1, .int v1), (2, .int v2)] := hl
  generalize hQ : MQ below _ _ s _ _ _ = Q
  generalize ([.ref a_t, .int v1, .int v2] : List Value).toArray = args at hts hQ ⊢
  clear B hD0 hAe
  refine lv_aload_n hx hb dX1_isBetter_0 rfl (lv_at hl 0 rfl) ?_
  refine va_get (D := (dC, dI)) (ci := 1) (v := .ref a_t_profits) (C := RX1) (T := TX1) (N := 6) hx hb hts iX1_isBetter_X1 hown hK hP 0 rfl rfl 1 (Nat.le_of_ble_eq_true rfl) (hts _ kX1_isBetter_0) (fun _ h9 => h9) rfl dX1_isBetter_1 ?_
  refine lv_iload_n hx hb dX1_isBetter_4 rfl (lv_at hl 1 rfl) ?_
  refine va_iald (D := (dC, dI)) hx hb hK hP 1 0 rfl rfl h.1 dX1_isBetter_5 ?_
  replace h := h.2
  refine lv_i2l hx hb dX1_isBetter_6 rfl ?_
  refine lv_aload_n hx hb dX1_isBetter_7 rfl (lv_at hl 0 rfl) ?_
  refine va_get (D := (dC, dI)) (ci := 1) (v := .ref a_t_weights) (C := RX1) (T := TX1) (N := 6) hx hb hts iX1_isBetter_X1 hown hK hP 0 rfl rfl 0 (Nat.le_of_ble_eq_true rfl) (hts _ kX1_isBetter_1) (fun _ h9 => h9) rfl dX1_isBetter_8 ?_
  refine lv_iload_n hx hb dX1_isBetter_11 rfl (lv_at hl 2 rfl) ?_
  refine va_iald (D := (dC, dI)) hx hb hK hP 2 0 rfl rfl h.1 dX1_isBetter_12 ?_
  replace h := h.2
  refine lv_i2l hx hb dX1_isBetter_13 rfl ?_
  refine lv_lmul hx hb dX1_isBetter_14 ?_
  refine lv_aload_n hx hb dX1_isBetter_15 rfl (lv_at hl 0 rfl) ?_
  refine va_get (D := (dC, dI)) (ci := 1) (v := .ref a_t_profits) (C := RX1) (T := TX1) (N := 6) hx hb hts iX1_isBetter_X1 hown hK hP 0 rfl rfl 1 (Nat.le_of_ble_eq_true rfl) (hts _ kX1_isBetter_0) (fun _ h9 => h9) rfl dX1_isBetter_16 ?_
  refine lv_iload_n hx hb dX1_isBetter_19 rfl (lv_at hl 2 rfl) ?_
  refine va_iald (D := (dC, dI)) hx hb hK hP 1 0 rfl rfl h.1 dX1_isBetter_20 ?_
  replace h := h.2
  refine lv_i2l hx hb dX1_isBetter_21 rfl ?_
  refine lv_aload_n hx hb dX1_isBetter_22 rfl (lv_at hl 0 rfl) ?_
  refine va_get (D := (dC, dI)) (ci := 1) (v := .ref a_t_weights) (C := RX1) (T := TX1) (N := 6) hx hb hts iX1_isBetter_X1 hown hK hP 0 rfl rfl 0 (Nat.le_of_ble_eq_true rfl) (hts _ kX1_isBetter_1) (fun _ h9 => h9) rfl dX1_isBetter_23 ?_
  refine lv_iload_n hx hb dX1_isBetter_26 rfl (lv_at hl 1 rfl) ?_
  refine va_iald (D := (dC, dI)) hx hb hK hP 2 0 rfl rfl h.1 dX1_isBetter_27 ?_
  replace h := h.2
  refine lv_i2l hx hb dX1_isBetter_28 rfl ?_
  refine lv_lmul hx hb dX1_isBetter_29 ?_
  refine W.lcmp hx hb dX1_isBetter_30 ?_
  refine lv_if_le (tgt := 38) hx hb dX1_isBetter_31 (by decide) (fun c_1 => ?_) (fun c_1 => ?_)
  · replace h := h.1 ((lg_cmp_le _ _).mp c_1)
    refine lv_iconst (v := 0) hx hb dX1_isBetter_38 (by decide) ?_
    rw [← hQ]
    exact W.zret (v := (0 : Int32)) hx hb hr rfl (fun t ht hW => ⟨⟨(0 : Int32), (), rfl, h, x_end (w1 := [(a_t, .inr (1, [.ref a_t_weights, .ref a_t_profits, .int t_items, .int t_room, .int t_most, .int t_steps])), (a_t_profits, .inl (cy 0, 60, .inl t_profits)), (a_t_weights, .inl (cy 0, 60, .inl t_weights))]) hP hD hK [0, 1, 2] rfl (by decide) rfl ht hW⟩, hS.F ht⟩) hS.2.2 dX1_isBetter_39
  · replace h := h.2 (fun z9 => c_1 ((lg_cmp_le _ _).mpr z9))
    refine lv_iconst (v := 1) hx hb dX1_isBetter_34 (by decide) ?_
    refine lv_goto (tgt := 39) hx hb dX1_isBetter_35 (by decide) ?_
    rw [← hQ]
    exact W.zret (v := (1 : Int32)) hx hb hr rfl (fun t ht hW => ⟨⟨(1 : Int32), (), rfl, h, x_end (w1 := [(a_t, .inr (1, [.ref a_t_weights, .ref a_t_profits, .int t_items, .int t_room, .int t_most, .int t_steps])), (a_t_profits, .inl (cy 0, 60, .inl t_profits)), (a_t_weights, .inl (cy 0, 60, .inl t_weights))]) hP hD hK [0, 1, 2] rfl (by decide) rfl ht hW⟩, hS.F ht⟩) hS.2.2 dX1_isBetter_39

/-- KnapsackCore$Load.makeAsAtFirst()V -/
def wX1_makeAsAtFirst (post : Int32 → Int32 → Int32 → Int32 → Prop) (t_items t_room t_most t_steps : Int32) : Prop :=
  post (0 : Int32) (100 : Int32) (400 : Int32) (0 : Int32)
theorem kX1_makeAsAtFirst_0 : Cond.fieldLink RX1 25 "KnapsackCore$Load" "items" "I" ∈ wsX1_makeAsAtFirst := (List.mem_cons_of_mem _ (List.mem_append_left _ (List.mem_of_getElem? (i := 0) rfl)))
theorem kX1_makeAsAtFirst_1 : Cond.fieldLink RX1 18 "KnapsackCore$Load" "room" "I" ∈ wsX1_makeAsAtFirst := (List.mem_cons_of_mem _ (List.mem_append_left _ (List.mem_of_getElem? (i := 1) rfl)))
theorem kX1_makeAsAtFirst_2 : Cond.fieldLink RX1 22 "KnapsackCore$Load" "most" "I" ∈ wsX1_makeAsAtFirst := (List.mem_cons_of_mem _ (List.mem_append_left _ (List.mem_of_getElem? (i := 2) rfl)))
theorem kX1_makeAsAtFirst_3 : Cond.fieldLink RX1 34 "KnapsackCore$Load" "steps" "I" ∈ wsX1_makeAsAtFirst := (List.mem_cons_of_mem _ (List.mem_append_left _ (List.mem_of_getElem? (i := 3) rfl)))
theorem iX1_makeAsAtFirst_X1 : ∀ w ∈ u_ws RX1 TX1 6, w ∈ wsX1_makeAsAtFirst := fun w h => (List.mem_cons_of_mem _ (List.mem_append_right _ h))
set_option maxHeartbeats 4000000 in
set_option maxRecDepth 100000 in
theorem mtX1_makeAsAtFirst (l : Launch) (ad : (Nat → Nat) × (Nat → Nat)) (dC : Nat → ClassId) (dI : Nat → Nat → Nat) (cy : Nat → ClassId) (a_t a_t_weights a_t_profits : Nat) (sz : Nat) (t_items t_room t_most t_steps : Int32) {post : Int32 → Int32 → Int32 → Int32 → Prop} (h : wX1_makeAsAtFirst post t_items t_room t_most t_steps) : xMv l yX1_makeAsAtFirst wsX1_makeAsAtFirst ({ frames := 0, cells := 0, slots := 0, locals := 0 } : Room) ad (dC, dI) vwCl (xT cy) [.ref a_t] [(a_t, .inr (1, [.ref a_t_weights, .ref a_t_profits, .int t_items, .int t_room, .int t_most, .int t_steps]))] sz (fun (u : Int32 × Int32 × Int32 × Int32) => post u.1 u.2.1 u.2.2.1 u.2.2.2) (fun (u : Int32 × Int32 × Int32 × Int32) w => w = [(a_t, .inr (1, [.ref a_t_weights, .ref a_t_profits, .int u.1, .int u.2.1, .int u.2.2.1, .int u.2.2.2]))]) 0 0 := by
  unfold xMv
  refine Met.ofW (cc := cX1_makeAsAtFirst) (maxL := 1) (ret := none) (by decide +kernel) rfl ?_
  intro p e s m args below meth c s₁ B hml hv
  obtain ⟨rfl, hsz, hP, hK, hD0, hE⟩ := hv
  have hx := B.exec
  have hb := B.bytes
  have hr := B.returns
  have hts := atoms_spec (ws := wsX1_makeAsAtFirst) B.pre
  have hown : s.vm.findClass RX1 = some m.cls := findClass_of_methodNamed B.named
  have hlocks := B.notSynchronized
  subst hsz
  have hD := hD0.self (sz := s.heap.size)
  generalize hAe : va_A [(a_t, .inr (1, [.ref a_t_weights, .ref a_t_profits, .int t_items, .int t_room, .int t_most, .int t_steps]))] s.heap.size = A at hD hE ⊢
  have hA : ∀ q : Nat, s.heap.size ≤ q → A q := fun q h => by rw [← hAe]; exact Or.inr h
  have hS : va_S A s.heap s.heap [] := va_S.rf
  have hl := lv_entry ([.ref a_t]) (n := 1) (Nat.le_of_ble_eq_true rfl)
  rw [lg_entry_eq]
  generalize (lg_sl ([.ref a_t]) ++ List.replicate (1 - (lg_sl ([.ref a_t])).length) Slot.unset).toArray = ls at hl ⊢
  have hl : lv_has ls 1 [(0, .ref a_t)] := hl
  generalize hQ : MQ below _ _ s _ _ _ = Q
  generalize ([.ref a_t] : List Value).toArray = args at hts hQ ⊢
  clear B hD0 hAe
  refine lv_aload_n hx hb dX1_makeAsAtFirst_0 rfl (lv_at hl 0 rfl) ?_
  refine lv_iconst (v := 0) hx hb dX1_makeAsAtFirst_1 (by decide) ?_
  refine va_put (D := (dC, dI)) (ci := 1) (v := .int (0 : Int32)) (C := RX1) (T := TX1) (N := 6) hx hb hts iX1_makeAsAtFirst_X1 tyX1 tyX1_ok nmX1 hown hK hP hD hS 0 rfl rfl 2 (Nat.le_of_ble_eq_true rfl) (hts _ kX1_makeAsAtFirst_0) (fun _ h9 => h9) rfl (tyX1_ok 2 (Nat.le_of_ble_eq_true rfl)) rfl rfl (Nat.le_of_ble_eq_true rfl) dX1_makeAsAtFirst_2 (fun H locs hP hD hS => ?_)
  have hP : va_P (dC, dI) vwCl [(a_t, .inr (1, [.ref a_t_weights, .ref a_t_profits, .int (0 : Int32), .int t_room, .int t_most, .int t_steps]))] H := hP
  have hD : va_D A [(a_t, .inr (1, [.ref a_t_weights, .ref a_t_profits, .int (0 : Int32), .int t_room, .int t_most, .int t_steps]))] := hD
  refine lv_aload_n hx hb dX1_makeAsAtFirst_5 rfl (lv_at hl 0 rfl) ?_
  refine lv_bipush (v := 100) hx hb dX1_makeAsAtFirst_6 (by decide) ?_
  refine va_put (D := (dC, dI)) (ci := 1) (v := .int (100 : Int32)) (C := RX1) (T := TX1) (N := 6) hx hb hts iX1_makeAsAtFirst_X1 tyX1 tyX1_ok nmX1 hown hK hP hD hS 0 rfl rfl 3 (Nat.le_of_ble_eq_true rfl) (hts _ kX1_makeAsAtFirst_1) (fun _ h9 => h9) rfl (tyX1_ok 3 (Nat.le_of_ble_eq_true rfl)) rfl rfl (Nat.le_of_ble_eq_true rfl) dX1_makeAsAtFirst_8 (fun H locs hP hD hS => ?_)
  have hP : va_P (dC, dI) vwCl [(a_t, .inr (1, [.ref a_t_weights, .ref a_t_profits, .int (0 : Int32), .int (100 : Int32), .int t_most, .int t_steps]))] H := hP
  have hD : va_D A [(a_t, .inr (1, [.ref a_t_weights, .ref a_t_profits, .int (0 : Int32), .int (100 : Int32), .int t_most, .int t_steps]))] := hD
  refine lv_aload_n hx hb dX1_makeAsAtFirst_11 rfl (lv_at hl 0 rfl) ?_
  refine lv_sipush (v := 400) hx hb dX1_makeAsAtFirst_12 (by decide) ?_
  refine va_put (D := (dC, dI)) (ci := 1) (v := .int (400 : Int32)) (C := RX1) (T := TX1) (N := 6) hx hb hts iX1_makeAsAtFirst_X1 tyX1 tyX1_ok nmX1 hown hK hP hD hS 0 rfl rfl 4 (Nat.le_of_ble_eq_true rfl) (hts _ kX1_makeAsAtFirst_2) (fun _ h9 => h9) rfl (tyX1_ok 4 (Nat.le_of_ble_eq_true rfl)) rfl rfl (Nat.le_of_ble_eq_true rfl) dX1_makeAsAtFirst_15 (fun H locs hP hD hS => ?_)
  have hP : va_P (dC, dI) vwCl [(a_t, .inr (1, [.ref a_t_weights, .ref a_t_profits, .int (0 : Int32), .int (100 : Int32), .int (400 : Int32), .int t_steps]))] H := hP
  have hD : va_D A [(a_t, .inr (1, [.ref a_t_weights, .ref a_t_profits, .int (0 : Int32), .int (100 : Int32), .int (400 : Int32), .int t_steps]))] := hD
  refine lv_aload_n hx hb dX1_makeAsAtFirst_18 rfl (lv_at hl 0 rfl) ?_
  refine lv_iconst (v := 0) hx hb dX1_makeAsAtFirst_19 (by decide) ?_
  refine va_put (D := (dC, dI)) (ci := 1) (v := .int (0 : Int32)) (C := RX1) (T := TX1) (N := 6) hx hb hts iX1_makeAsAtFirst_X1 tyX1 tyX1_ok nmX1 hown hK hP hD hS 0 rfl rfl 5 (Nat.le_of_ble_eq_true rfl) (hts _ kX1_makeAsAtFirst_3) (fun _ h9 => h9) rfl (tyX1_ok 5 (Nat.le_of_ble_eq_true rfl)) rfl rfl (Nat.le_of_ble_eq_true rfl) dX1_makeAsAtFirst_20 (fun H locs hP hD hS => ?_)
  have hP : va_P (dC, dI) vwCl [(a_t, .inr (1, [.ref a_t_weights, .ref a_t_profits, .int (0 : Int32), .int (100 : Int32), .int (400 : Int32), .int (0 : Int32)]))] H := hP
  have hD : va_D A [(a_t, .inr (1, [.ref a_t_weights, .ref a_t_profits, .int (0 : Int32), .int (100 : Int32), .int (400 : Int32), .int (0 : Int32)]))] := hD
  rw [← hQ]
  exact W.vret hx hb hr (fun t ht hW => ⟨⟨((0 : Int32), (100 : Int32), (400 : Int32), (0 : Int32)), rfl, (by dsimp only; exact h), x_end (w1 := [(a_t, .inr (1, [.ref a_t_weights, .ref a_t_profits, .int (0 : Int32), .int (100 : Int32), .int (400 : Int32), .int (0 : Int32)]))]) hP hD hK [0] rfl (by decide) (by first | exact rfl | (dsimp only; exact rfl)) ht hW⟩, hS.F ht⟩) hS.2.2 dX1_makeAsAtFirst_23

/-- KnapsackCore$Load.put(II)V -/
def wX1_put (post : Int32 → (Nat → Int32) → (Nat → Int32) → Prop) (t_items : Int32) (t_weights t_profits : Nat → Int32) (v1 v2 : Int32) : Prop :=
  ((60 : Int32) ≤ t_items → post t_items t_weights t_profits) ∧ (¬ (60 : Int32) ≤ t_items → vp_in t_items 60 ∧ vp_in t_items 60 ∧ post (t_items + (1 : Int32)) (upd t_weights (t_items).toNatClampNeg v1) (upd t_profits (t_items).toNatClampNeg v2))
theorem kX1_put_0 : Cond.fieldLink RX1 25 "KnapsackCore$Load" "items" "I" ∈ wsX1_put := (List.mem_cons_of_mem _ (List.mem_append_left _ (List.mem_of_getElem? (i := 0) rfl)))
theorem kX1_put_1 : Cond.fieldLink RX1 9 "KnapsackCore$Load" "weights" "[I" ∈ wsX1_put := (List.mem_cons_of_mem _ (List.mem_append_left _ (List.mem_of_getElem? (i := 1) rfl)))
theorem kX1_put_2 : Cond.fieldLink RX1 15 "KnapsackCore$Load" "profits" "[I" ∈ wsX1_put := (List.mem_cons_of_mem _ (List.mem_append_left _ (List.mem_of_getElem? (i := 2) rfl)))
theorem iX1_put_X1 : ∀ w ∈ u_ws RX1 TX1 6, w ∈ wsX1_put := fun w h => (List.mem_cons_of_mem _ (List.mem_append_right _ h))
set_option maxHeartbeats 4000000 in
set_option maxRecDepth 100000 in
theorem mtX1_put (l : Launch) (ad : (Nat → Nat) × (Nat → Nat)) (dC : Nat → ClassId) (dI : Nat → Nat → Nat) (cy : Nat → ClassId) (a_t a_t_weights a_t_profits : Nat) (sz : Nat) (t_items t_room t_most t_steps : Int32) (t_weights t_profits : Nat → Int32) (v1 v2 : Int32) {post : Int32 → (Nat → Int32) → (Nat → Int32) → Prop} (h : wX1_put post t_items t_weights t_profits v1 v2) : xMv l yX1_put wsX1_put ({ frames := 0, cells := 0, slots := 0, locals := 0 } : Room) ad (dC, dI) vwCl (xT cy) [.ref a_t, .int v1, .int v2] [(a_t, .inr (1, [.ref a_t_weights, .ref a_t_profits, .int t_items, .int t_room, .int t_most, .int t_steps])), (a_t_weights, .inl (cy 0, 60, .inl t_weights)), (a_t_profits, .inl (cy 0, 60, .inl t_profits))] sz (fun (u : Int32 × (Nat → Int32) × (Nat → Int32)) => post u.1 u.2.1 u.2.2) (fun (u : Int32 × (Nat → Int32) × (Nat → Int32)) w => w = [(a_t, .inr (1, [.ref a_t_weights, .ref a_t_profits, .int u.1, .int t_room, .int t_most, .int t_steps])), (a_t_weights, .inl (cy 0, 60, .inl u.2.1)), (a_t_profits, .inl (cy 0, 60, .inl u.2.2))]) 0 0 := by
  unfold xMv
  refine Met.ofW (cc := cX1_put) (maxL := 3) (ret := none) (by decide +kernel) rfl ?_
  intro p e s m args below meth c s₁ B hml hv
  obtain ⟨rfl, hsz, hP, hK, hD0, hE⟩ := hv
  have hx := B.exec
  have hb := B.bytes
  have hr := B.returns
  have hts := atoms_spec (ws := wsX1_put) B.pre
  have hown : s.vm.findClass RX1 = some m.cls := findClass_of_methodNamed B.named
  have hlocks := B.notSynchronized
  subst hsz
  have hD := hD0.self (sz := s.heap.size)
  generalize hAe : va_A [(a_t, .inr (1, [.ref a_t_weights, .ref a_t_profits, .int t_items, .int t_room, .int t_most, .int t_steps])), (a_t_weights, .inl (cy 0, 60, .inl t_weights)), (a_t_profits, .inl (cy 0, 60, .inl t_profits))] s.heap.size = A at hD hE ⊢
  have hA : ∀ q : Nat, s.heap.size ≤ q → A q := fun q h => by rw [← hAe]; exact Or.inr h
  have hS : va_S A s.heap s.heap [] := va_S.rf
  have hl := lv_entry ([.ref a_t, .int v1, .int v2]) (n := 3) (Nat.le_of_ble_eq_true rfl)
  rw [lg_entry_eq]
  generalize (lg_sl ([.ref a_t, .int v1, .int v2]) ++ List.replicate (3 - (lg_sl ([.ref a_t, .int v1, .int v2])).length) Slot.unset).toArray = ls at hl ⊢
  have hl : lv_has ls 3 [(0, .ref a_t), (1, .int v1), (2, .int v2)] := hl
  generalize hQ : MQ below _ _ s _ _ _ = Q
  generalize ([.ref a_t, .int v1, .int v2] : List Value).toArray = args at hts hQ ⊢
  clear B hD0 hAe
  refine lv_aload_n hx hb dX1_put_0 rfl (lv_at hl 0 rfl) ?_
  refine va_get (D := (dC, dI)) (ci := 1) (v := .int t_items) (C := RX1) (T := TX1) (N := 6) hx hb hts iX1_put_X1 hown hK hP 0 rfl rfl 2 (Nat.le_of_ble_eq_true rfl) (hts _ kX1_put_0) (fun _ h9 => h9) rfl dX1_put_1 ?_
  refine lv_bipush (v := 60) hx hb dX1_put_4 (by decide) ?_
  refine lv_icmp_ge (tgt := 39) hx hb dX1_put_6 (by decide) (fun c_1 => ?_) (fun c_1 => ?_)
  · replace h := h.1 c_1
    rw [← hQ]
    exact W.vret hx hb hr (fun t ht hW => ⟨⟨(t_items, t_weights, t_profits), rfl, (by dsimp only; exact h), x_end (w1 := [(a_t, .inr (1, [.ref a_t_weights, .ref a_t_profits, .int t_items, .int t_room, .int t_most, .int t_steps])), (a_t_weights, .inl (cy 0, 60, .inl t_weights)), (a_t_profits, .inl (cy 0, 60, .inl t_profits))]) hP hD hK [0, 1, 2] rfl (by decide) (by first | exact rfl | (dsimp only; exact rfl)) ht hW⟩, hS.F ht⟩) hS.2.2 dX1_put_39
  · replace h := h.2 c_1
    refine lv_aload_n hx hb dX1_put_9 rfl (lv_at hl 0 rfl) ?_
    refine va_get (D := (dC, dI)) (ci := 1) (v := .ref a_t_weights) (C := RX1) (T := TX1) (N := 6) hx hb hts iX1_put_X1 hown hK hP 0 rfl rfl 0 (Nat.le_of_ble_eq_true rfl) (hts _ kX1_put_1) (fun _ h9 => h9) rfl dX1_put_10 ?_
    refine lv_aload_n hx hb dX1_put_13 rfl (lv_at hl 0 rfl) ?_
    refine va_get (D := (dC, dI)) (ci := 1) (v := .int t_items) (C := RX1) (T := TX1) (N := 6) hx hb hts iX1_put_X1 hown hK hP 0 rfl rfl 2 (Nat.le_of_ble_eq_true rfl) (hts _ kX1_put_0) (fun _ h9 => h9) rfl dX1_put_14 ?_
    refine lv_iload_n hx hb dX1_put_17 rfl (lv_at hl 1 rfl) ?_
    refine va_iast (D := (dC, dI)) hx hb hK hP hD hS 1 0 rfl rfl h.1 dX1_put_18 (fun H locs hP hD hS => ?_)
    replace h := h.2
    have hP : va_P (dC, dI) vwCl [(a_t, .inr (1, [.ref a_t_weights, .ref a_t_profits, .int t_items, .int t_room, .int t_most, .int t_steps])), (a_t_weights, .inl (cy 0, 60, .inl (upd t_weights (t_items).toNatClampNeg v1))), (a_t_profits, .inl (cy 0, 60, .inl t_profits))] H := hP
    have hD : va_D A [(a_t, .inr (1, [.ref a_t_weights, .ref a_t_profits, .int t_items, .int t_room, .int t_most, .int t_steps])), (a_t_weights, .inl (cy 0, 60, .inl (upd t_weights (t_items).toNatClampNeg v1))), (a_t_profits, .inl (cy 0, 60, .inl t_profits))] := hD
    refine lv_aload_n hx hb dX1_put_19 rfl (lv_at hl 0 rfl) ?_
    refine va_get (D := (dC, dI)) (ci := 1) (v := .ref a_t_profits) (C := RX1) (T := TX1) (N := 6) hx hb hts iX1_put_X1 hown hK hP 0 rfl rfl 1 (Nat.le_of_ble_eq_true rfl) (hts _ kX1_put_2) (fun _ h9 => h9) rfl dX1_put_20 ?_
    refine lv_aload_n hx hb dX1_put_23 rfl (lv_at hl 0 rfl) ?_
    refine va_get (D := (dC, dI)) (ci := 1) (v := .int t_items) (C := RX1) (T := TX1) (N := 6) hx hb hts iX1_put_X1 hown hK hP 0 rfl rfl 2 (Nat.le_of_ble_eq_true rfl) (hts _ kX1_put_0) (fun _ h9 => h9) rfl dX1_put_24 ?_
    refine lv_iload_n hx hb dX1_put_27 rfl (lv_at hl 2 rfl) ?_
    refine va_iast (D := (dC, dI)) hx hb hK hP hD hS 2 0 rfl rfl h.1 dX1_put_28 (fun H locs hP hD hS => ?_)
    replace h := h.2
    have hP : va_P (dC, dI) vwCl [(a_t, .inr (1, [.ref a_t_weights, .ref a_t_profits, .int t_items, .int t_room, .int t_most, .int t_steps])), (a_t_weights, .inl (cy 0, 60, .inl (upd t_weights (t_items).toNatClampNeg v1))), (a_t_profits, .inl (cy 0, 60, .inl (upd t_profits (t_items).toNatClampNeg v2)))] H := hP
    have hD : va_D A [(a_t, .inr (1, [.ref a_t_weights, .ref a_t_profits, .int t_items, .int t_room, .int t_most, .int t_steps])), (a_t_weights, .inl (cy 0, 60, .inl (upd t_weights (t_items).toNatClampNeg v1))), (a_t_profits, .inl (cy 0, 60, .inl (upd t_profits (t_items).toNatClampNeg v2)))] := hD
    refine lv_aload_n hx hb dX1_put_29 rfl (lv_at hl 0 rfl) ?_
    refine lv_dup hx hb dX1_put_30 rfl ?_
    refine va_get (D := (dC, dI)) (ci := 1) (v := .int t_items) (C := RX1) (T := TX1) (N := 6) hx hb hts iX1_put_X1 hown hK hP 0 rfl rfl 2 (Nat.le_of_ble_eq_true rfl) (hts _ kX1_put_0) (fun _ h9 => h9) rfl dX1_put_31 ?_
    refine lv_iconst (v := 1) hx hb dX1_put_34 (by decide) ?_
    refine lv_iadd hx hb dX1_put_35 ?_
    refine va_put (D := (dC, dI)) (ci := 1) (v := .int (t_items + (1 : Int32))) (C := RX1) (T := TX1) (N := 6) hx hb hts iX1_put_X1 tyX1 tyX1_ok nmX1 hown hK hP hD hS 0 rfl rfl 2 (Nat.le_of_ble_eq_true rfl) (hts _ kX1_put_0) (fun _ h9 => h9) rfl (tyX1_ok 2 (Nat.le_of_ble_eq_true rfl)) rfl rfl (Nat.le_of_ble_eq_true rfl) dX1_put_36 (fun H locs hP hD hS => ?_)
    have hP : va_P (dC, dI) vwCl [(a_t, .inr (1, [.ref a_t_weights, .ref a_t_profits, .int (t_items + (1 : Int32)), .int t_room, .int t_most, .int t_steps])), (a_t_weights, .inl (cy 0, 60, .inl (upd t_weights (t_items).toNatClampNeg v1))), (a_t_profits, .inl (cy 0, 60, .inl (upd t_profits (t_items).toNatClampNeg v2)))] H := hP
    have hD : va_D A [(a_t, .inr (1, [.ref a_t_weights, .ref a_t_profits, .int (t_items + (1 : Int32)), .int t_room, .int t_most, .int t_steps])), (a_t_weights, .inl (cy 0, 60, .inl (upd t_weights (t_items).toNatClampNeg v1))), (a_t_profits, .inl (cy 0, 60, .inl (upd t_profits (t_items).toNatClampNeg v2)))] := hD
    rw [← hQ]
    exact W.vret hx hb hr (fun t ht hW => ⟨⟨((t_items + (1 : Int32)), (upd t_weights (t_items).toNatClampNeg v1), (upd t_profits (t_items).toNatClampNeg v2)), rfl, (by dsimp only; exact h), x_end (w1 := [(a_t, .inr (1, [.ref a_t_weights, .ref a_t_profits, .int (t_items + (1 : Int32)), .int t_room, .int t_most, .int t_steps])), (a_t_weights, .inl (cy 0, 60, .inl (upd t_weights (t_items).toNatClampNeg v1))), (a_t_profits, .inl (cy 0, 60, .inl (upd t_profits (t_items).toNatClampNeg v2)))]) hP hD hK [0, 1, 2] rfl (by decide) (by first | exact rfl | (dsimp only; exact rfl)) ht hW⟩, hS.F ht⟩) hS.2.2 dX1_put_39

theorem qX1_has : yX1_has.cls = RX1 ∧ yX1_has.cls ≠ "java/lang/invoke/MethodHandle" ∧ yX1_has.cls ≠ "java/lang/invoke/VarHandle" ∧ (parseMethodDescriptor yX1_has.desc).map (fun d => d.parameters.length) = some 1 := by decide +kernel
def wX1_takeOut_5 (post : Int32 → (Nat → Int32) → (Nat → Int32) → Prop) (t_items : Int32) (t_weights t_profits : Nat → Int32) (v1 k0 : Int32) : Prop :=
  (k0 = (0 : Int32) → post t_items t_weights t_profits) ∧ (¬ k0 = (0 : Int32) → ¬ (v1 + (1 : Int32)) < (0 : Int32) ∧ ¬ v1 < (0 : Int32) ∧ ¬ ((t_items - v1) - (1 : Int32)) < (0 : Int32) ∧ ((v1 + (1 : Int32))).toNatClampNeg + (((t_items - v1) - (1 : Int32))).toNatClampNeg ≤ 60 ∧ (v1).toNatClampNeg + (((t_items - v1) - (1 : Int32))).toNatClampNeg ≤ 60 ∧ ¬ (v1 + (1 : Int32)) < (0 : Int32) ∧ ¬ v1 < (0 : Int32) ∧ ¬ ((t_items - v1) - (1 : Int32)) < (0 : Int32) ∧ ((v1 + (1 : Int32))).toNatClampNeg + (((t_items - v1) - (1 : Int32))).toNatClampNeg ≤ 60 ∧ (v1).toNatClampNeg + (((t_items - v1) - (1 : Int32))).toNatClampNeg ≤ 60 ∧ post (t_items - (1 : Int32)) (va_cpy t_weights t_weights ((v1 + (1 : Int32))).toNatClampNeg (v1).toNatClampNeg (((t_items - v1) - (1 : Int32))).toNatClampNeg) (va_cpy t_profits t_profits ((v1 + (1 : Int32))).toNatClampNeg (v1).toNatClampNeg (((t_items - v1) - (1 : Int32))).toNatClampNeg))
/-- KnapsackCore$Load.takeOut(I)V -/
def wX1_takeOut (post : Int32 → (Nat → Int32) → (Nat → Int32) → Prop) (t_items : Int32) (t_weights t_profits : Nat → Int32) (v1 : Int32) : Prop :=
  wX1_has t_items (fun r2 => wX1_takeOut_5 post t_items t_weights t_profits v1 r2) v1
theorem kX1_takeOut_0 : Cond.fieldLink RX1 9 "KnapsackCore$Load" "weights" "[I" ∈ wsX1_takeOut := (List.mem_cons_of_mem _ (List.mem_append_left _ (List.mem_of_getElem? (i := 0) rfl)))
theorem kX1_takeOut_1 : Cond.fieldLink RX1 25 "KnapsackCore$Load" "items" "I" ∈ wsX1_takeOut := (List.mem_cons_of_mem _ (List.mem_append_left _ (List.mem_of_getElem? (i := 1) rfl)))
theorem kX1_takeOut_2 : Cond.methodLink RX1 28 arraycopyName ∈ wsX1_takeOut := (List.mem_cons_of_mem _ (List.mem_append_left _ (List.mem_of_getElem? (i := 2) rfl)))
theorem kX1_takeOut_3 : Cond.native arraycopyName ∈ wsX1_takeOut := (List.mem_cons_of_mem _ (List.mem_append_left _ (List.mem_of_getElem? (i := 3) rfl)))
theorem kX1_takeOut_4 : Cond.static arraycopyName ∈ wsX1_takeOut := (List.mem_cons_of_mem _ (List.mem_append_left _ (List.mem_of_getElem? (i := 4) rfl)))
theorem kX1_takeOut_5 : Cond.initialized "java/lang/System" ∈ wsX1_takeOut := (List.mem_cons_of_mem _ (List.mem_append_left _ (List.mem_of_getElem? (i := 5) rfl)))
theorem kX1_takeOut_6 : Cond.fieldLink RX1 15 "KnapsackCore$Load" "profits" "[I" ∈ wsX1_takeOut := (List.mem_cons_of_mem _ (List.mem_append_left _ (List.mem_of_getElem? (i := 6) rfl)))
theorem iX1_takeOut_X1 : ∀ w ∈ u_ws RX1 TX1 6, w ∈ wsX1_takeOut := fun w h => (List.mem_cons_of_mem _ (List.mem_append_right _ h))
set_option maxHeartbeats 4000000 in
set_option maxRecDepth 100000 in
theorem mtX1_takeOut (l : Launch) (ad : (Nat → Nat) × (Nat → Nat)) (dC : Nat → ClassId) (dI : Nat → Nat → Nat) (cy : Nat → ClassId) (a_t a_t_weights a_t_profits : Nat) (sz : Nat) (t_items t_room t_most t_steps : Int32) (t_weights t_profits : Nat → Int32) (v1 : Int32) {post : Int32 → (Nat → Int32) → (Nat → Int32) → Prop} (h : wX1_takeOut post t_items t_weights t_profits v1) : xMv l yX1_takeOut wsX1_takeOut ({ frames := 1, cells := 0, slots := 0, locals := 40 } : Room) ad (dC, dI) vwCl (xT cy) [.ref a_t, .int v1] [(a_t, .inr (1, [.ref a_t_weights, .ref a_t_profits, .int t_items, .int t_room, .int t_most, .int t_steps])), (a_t_weights, .inl (cy 0, 60, .inl t_weights)), (a_t_profits, .inl (cy 0, 60, .inl t_profits))] sz (fun (u : Int32 × (Nat → Int32) × (Nat → Int32)) => post u.1 u.2.1 u.2.2) (fun (u : Int32 × (Nat → Int32) × (Nat → Int32)) w => w = [(a_t, .inr (1, [.ref a_t_weights, .ref a_t_profits, .int u.1, .int t_room, .int t_most, .int t_steps])), (a_t_weights, .inl (cy 0, 60, .inl u.2.1)), (a_t_profits, .inl (cy 0, 60, .inl u.2.2))]) 0 0 := by
  unfold xMv
  refine Met.ofW (cc := cX1_takeOut) (maxL := 2) (ret := none) (by decide +kernel) rfl ?_
  intro p e s m args below meth c s₁ B hml hv
  obtain ⟨rfl, hsz, hP, hK, hD0, hE⟩ := hv
  have hx := B.exec
  have hb := B.bytes
  have hr := B.returns
  have hts := atoms_spec (ws := wsX1_takeOut) B.pre
  have hown : s.vm.findClass RX1 = some m.cls := findClass_of_methodNamed B.named
  have hlocks := B.notSynchronized
  subst hsz
  have hD := hD0.self (sz := s.heap.size)
  generalize hAe : va_A [(a_t, .inr (1, [.ref a_t_weights, .ref a_t_profits, .int t_items, .int t_room, .int t_most, .int t_steps])), (a_t_weights, .inl (cy 0, 60, .inl t_weights)), (a_t_profits, .inl (cy 0, 60, .inl t_profits))] s.heap.size = A at hD hE ⊢
  have hA : ∀ q : Nat, s.heap.size ≤ q → A q := fun q h => by rw [← hAe]; exact Or.inr h
  have hS : va_S A s.heap s.heap [] := va_S.rf
  have hl := lv_entry ([.ref a_t, .int v1]) (n := 2) (Nat.le_of_ble_eq_true rfl)
  rw [lg_entry_eq]
  generalize (lg_sl ([.ref a_t, .int v1]) ++ List.replicate (2 - (lg_sl ([.ref a_t, .int v1])).length) Slot.unset).toArray = ls at hl ⊢
  have hl : lv_has ls 2 [(0, .ref a_t), (1, .int v1)] := hl
  generalize hQ : MQ below _ _ s _ _ _ = Q
  generalize ([.ref a_t, .int v1] : List Value).toArray = args at hts hQ ⊢
  clear B hD0 hAe
  refine lv_aload_n hx hb dX1_takeOut_0 rfl (lv_at hl 0 rfl) ?_
  refine lv_iload_n hx hb dX1_takeOut_1 rfl (lv_at hl 1 rfl) ?_
  refine xVi0 (As := [.int v1]) (rest := []) ⟨hx, hb, hml, hown, hts⟩ (mtX1_has l ad dC dI cy a_t a_t_weights a_t_profits _ t_items t_room t_most t_steps v1 h) (cwV 1 hts gX1_takeOut_X1_has rfl rfl rfl qX1_has ⟨Nat.le_of_ble_eq_true rfl, Nat.le_of_ble_eq_true rfl⟩) hE hK hP hD hS hA 1 0 rfl rfl rfl [0] rfl (by decide) rfl hl.1 rfl (Nat.le_of_ble_eq_true rfl) dX1_takeOut_2 ⟨Nat.le_refl _, Nat.le_refl _⟩ (fun r2 H locs h hP hS => ?_)
  try dsimp only at h
  refine lv_if_eq (tgt := 64) hx hb dX1_takeOut_5 (by decide) (fun c_1 => ?_) (fun c_1 => ?_)
  · replace h := h.1 c_1
    rw [← hQ]
    exact W.vret hx hb hr (fun t ht hW => ⟨⟨(t_items, t_weights, t_profits), rfl, (by dsimp only; exact h), x_end (w1 := [(a_t, .inr (1, [.ref a_t_weights, .ref a_t_profits, .int t_items, .int t_room, .int t_most, .int t_steps])), (a_t_weights, .inl (cy 0, 60, .inl t_weights)), (a_t_profits, .inl (cy 0, 60, .inl t_profits))]) hP hD hK [0, 1, 2] rfl (by decide) (by first | exact rfl | (dsimp only; exact rfl)) ht hW⟩, hS.F ht⟩) hS.2.2 dX1_takeOut_64
  · replace h := h.2 c_1
    refine lv_aload_n hx hb dX1_takeOut_8 rfl (lv_at hl 0 rfl) ?_
    refine va_get (D := (dC, dI)) (ci := 1) (v := .ref a_t_weights) (C := RX1) (T := TX1) (N := 6) hx hb hts iX1_takeOut_X1 hown hK hP 0 rfl rfl 0 (Nat.le_of_ble_eq_true rfl) (hts _ kX1_takeOut_0) (fun _ h9 => h9) rfl dX1_takeOut_9 ?_
    refine lv_iload_n hx hb dX1_takeOut_12 rfl (lv_at hl 1 rfl) ?_
    refine lv_iconst (v := 1) hx hb dX1_takeOut_13 (by decide) ?_
    refine lv_iadd hx hb dX1_takeOut_14 ?_
    refine lv_aload_n hx hb dX1_takeOut_15 rfl (lv_at hl 0 rfl) ?_
    refine va_get (D := (dC, dI)) (ci := 1) (v := .ref a_t_weights) (C := RX1) (T := TX1) (N := 6) hx hb hts iX1_takeOut_X1 hown hK hP 0 rfl rfl 0 (Nat.le_of_ble_eq_true rfl) (hts _ kX1_takeOut_0) (fun _ h9 => h9) rfl dX1_takeOut_16 ?_
    refine lv_iload_n hx hb dX1_takeOut_19 rfl (lv_at hl 1 rfl) ?_
    refine lv_aload_n hx hb dX1_takeOut_20 rfl (lv_at hl 0 rfl) ?_
    refine va_get (D := (dC, dI)) (ci := 1) (v := .int t_items) (C := RX1) (T := TX1) (N := 6) hx hb hts iX1_takeOut_X1 hown hK hP 0 rfl rfl 2 (Nat.le_of_ble_eq_true rfl) (hts _ kX1_takeOut_1) (fun _ h9 => h9) rfl dX1_takeOut_21 ?_
    refine lv_iload_n hx hb dX1_takeOut_24 rfl (lv_at hl 1 rfl) ?_
    refine lv_isub hx hb dX1_takeOut_25 ?_
    refine lv_iconst (v := 1) hx hb dX1_takeOut_26 (by decide) ?_
    refine lv_isub hx hb dX1_takeOut_27 ?_
    refine va_copyi (D := (dC, dI)) hx hb (hml.trans hl.1.symm) hown (hts _ kX1_takeOut_2) (hts _ kX1_takeOut_3) (hts _ kX1_takeOut_4) (hts _ kX1_takeOut_5) hK hP hD hS 1 1 0 0 rfl rfl rfl rfl rfl h.1 h.2.1 h.2.2.1 h.2.2.2.1 h.2.2.2.2.1 (fun _ _ => rfl) (Nat.le_of_ble_eq_true rfl) (Nat.le_of_ble_eq_true rfl) dX1_takeOut_28 (fun H locs hP hD hS => ?_)
    replace h := h.2.2.2.2.2
    have hP : va_P (dC, dI) vwCl [(a_t, .inr (1, [.ref a_t_weights, .ref a_t_profits, .int t_items, .int t_room, .int t_most, .int t_steps])), (a_t_weights, .inl (cy 0, 60, .inl (va_cpy t_weights t_weights ((v1 + (1 : Int32))).toNatClampNeg (v1).toNatClampNeg (((t_items - v1) - (1 : Int32))).toNatClampNeg))), (a_t_profits, .inl (cy 0, 60, .inl t_profits))] H := hP
    have hD : va_D A [(a_t, .inr (1, [.ref a_t_weights, .ref a_t_profits, .int t_items, .int t_room, .int t_most, .int t_steps])), (a_t_weights, .inl (cy 0, 60, .inl (va_cpy t_weights t_weights ((v1 + (1 : Int32))).toNatClampNeg (v1).toNatClampNeg (((t_items - v1) - (1 : Int32))).toNatClampNeg))), (a_t_profits, .inl (cy 0, 60, .inl t_profits))] := hD
    refine lv_aload_n hx hb dX1_takeOut_31 rfl (lv_at hl 0 rfl) ?_
    refine va_get (D := (dC, dI)) (ci := 1) (v := .ref a_t_profits) (C := RX1) (T := TX1) (N := 6) hx hb hts iX1_takeOut_X1 hown hK hP 0 rfl rfl 1 (Nat.le_of_ble_eq_true rfl) (hts _ kX1_takeOut_6) (fun _ h9 => h9) rfl dX1_takeOut_32 ?_
    refine lv_iload_n hx hb dX1_takeOut_35 rfl (lv_at hl 1 rfl) ?_
    refine lv_iconst (v := 1) hx hb dX1_takeOut_36 (by decide) ?_
    refine lv_iadd hx hb dX1_takeOut_37 ?_
    refine lv_aload_n hx hb dX1_takeOut_38 rfl (lv_at hl 0 rfl) ?_
    refine va_get (D := (dC, dI)) (ci := 1) (v := .ref a_t_profits) (C := RX1) (T := TX1) (N := 6) hx hb hts iX1_takeOut_X1 hown hK hP 0 rfl rfl 1 (Nat.le_of_ble_eq_true rfl) (hts _ kX1_takeOut_6) (fun _ h9 => h9) rfl dX1_takeOut_39 ?_
    refine lv_iload_n hx hb dX1_takeOut_42 rfl (lv_at hl 1 rfl) ?_
    refine lv_aload_n hx hb dX1_takeOut_43 rfl (lv_at hl 0 rfl) ?_
    refine va_get (D := (dC, dI)) (ci := 1) (v := .int t_items) (C := RX1) (T := TX1) (N := 6) hx hb hts iX1_takeOut_X1 hown hK hP 0 rfl rfl 2 (Nat.le_of_ble_eq_true rfl) (hts _ kX1_takeOut_1) (fun _ h9 => h9) rfl dX1_takeOut_44 ?_
    refine lv_iload_n hx hb dX1_takeOut_47 rfl (lv_at hl 1 rfl) ?_
    refine lv_isub hx hb dX1_takeOut_48 ?_
    refine lv_iconst (v := 1) hx hb dX1_takeOut_49 (by decide) ?_
    refine lv_isub hx hb dX1_takeOut_50 ?_
    refine va_copyi (D := (dC, dI)) hx hb (hml.trans hl.1.symm) hown (hts _ kX1_takeOut_2) (hts _ kX1_takeOut_3) (hts _ kX1_takeOut_4) (hts _ kX1_takeOut_5) hK hP hD hS 2 2 0 0 rfl rfl rfl rfl rfl h.1 h.2.1 h.2.2.1 h.2.2.2.1 h.2.2.2.2.1 (fun _ _ => rfl) (Nat.le_of_ble_eq_true rfl) (Nat.le_of_ble_eq_true rfl) dX1_takeOut_51 (fun H locs hP hD hS => ?_)
    replace h := h.2.2.2.2.2
    have hP : va_P (dC, dI) vwCl [(a_t, .inr (1, [.ref a_t_weights, .ref a_t_profits, .int t_items, .int t_room, .int t_most, .int t_steps])), (a_t_weights, .inl (cy 0, 60, .inl (va_cpy t_weights t_weights ((v1 + (1 : Int32))).toNatClampNeg (v1).toNatClampNeg (((t_items - v1) - (1 : Int32))).toNatClampNeg))), (a_t_profits, .inl (cy 0, 60, .inl (va_cpy t_profits t_profits ((v1 + (1 : Int32))).toNatClampNeg (v1).toNatClampNeg (((t_items - v1) - (1 : Int32))).toNatClampNeg)))] H := hP
    have hD : va_D A [(a_t, .inr (1, [.ref a_t_weights, .ref a_t_profits, .int t_items, .int t_room, .int t_most, .int t_steps])), (a_t_weights, .inl (cy 0, 60, .inl (va_cpy t_weights t_weights ((v1 + (1 : Int32))).toNatClampNeg (v1).toNatClampNeg (((t_items - v1) - (1 : Int32))).toNatClampNeg))), (a_t_profits, .inl (cy 0, 60, .inl (va_cpy t_profits t_profits ((v1 + (1 : Int32))).toNatClampNeg (v1).toNatClampNeg (((t_items - v1) - (1 : Int32))).toNatClampNeg)))] := hD
    refine lv_aload_n hx hb dX1_takeOut_54 rfl (lv_at hl 0 rfl) ?_
    refine lv_dup hx hb dX1_takeOut_55 rfl ?_
    refine va_get (D := (dC, dI)) (ci := 1) (v := .int t_items) (C := RX1) (T := TX1) (N := 6) hx hb hts iX1_takeOut_X1 hown hK hP 0 rfl rfl 2 (Nat.le_of_ble_eq_true rfl) (hts _ kX1_takeOut_1) (fun _ h9 => h9) rfl dX1_takeOut_56 ?_
    refine lv_iconst (v := 1) hx hb dX1_takeOut_59 (by decide) ?_
    refine lv_isub hx hb dX1_takeOut_60 ?_
    refine va_put (D := (dC, dI)) (ci := 1) (v := .int (t_items - (1 : Int32))) (C := RX1) (T := TX1) (N := 6) hx hb hts iX1_takeOut_X1 tyX1 tyX1_ok nmX1 hown hK hP hD hS 0 rfl rfl 2 (Nat.le_of_ble_eq_true rfl) (hts _ kX1_takeOut_1) (fun _ h9 => h9) rfl (tyX1_ok 2 (Nat.le_of_ble_eq_true rfl)) rfl rfl (Nat.le_of_ble_eq_true rfl) dX1_takeOut_61 (fun H locs hP hD hS => ?_)
    have hP : va_P (dC, dI) vwCl [(a_t, .inr (1, [.ref a_t_weights, .ref a_t_profits, .int (t_items - (1 : Int32)), .int t_room, .int t_most, .int t_steps])), (a_t_weights, .inl (cy 0, 60, .inl (va_cpy t_weights t_weights ((v1 + (1 : Int32))).toNatClampNeg (v1).toNatClampNeg (((t_items - v1) - (1 : Int32))).toNatClampNeg))), (a_t_profits, .inl (cy 0, 60, .inl (va_cpy t_profits t_profits ((v1 + (1 : Int32))).toNatClampNeg (v1).toNatClampNeg (((t_items - v1) - (1 : Int32))).toNatClampNeg)))] H := hP
    have hD : va_D A [(a_t, .inr (1, [.ref a_t_weights, .ref a_t_profits, .int (t_items - (1 : Int32)), .int t_room, .int t_most, .int t_steps])), (a_t_weights, .inl (cy 0, 60, .inl (va_cpy t_weights t_weights ((v1 + (1 : Int32))).toNatClampNeg (v1).toNatClampNeg (((t_items - v1) - (1 : Int32))).toNatClampNeg))), (a_t_profits, .inl (cy 0, 60, .inl (va_cpy t_profits t_profits ((v1 + (1 : Int32))).toNatClampNeg (v1).toNatClampNeg (((t_items - v1) - (1 : Int32))).toNatClampNeg)))] := hD
    rw [← hQ]
    exact W.vret hx hb hr (fun t ht hW => ⟨⟨((t_items - (1 : Int32)), (va_cpy t_weights t_weights ((v1 + (1 : Int32))).toNatClampNeg (v1).toNatClampNeg (((t_items - v1) - (1 : Int32))).toNatClampNeg), (va_cpy t_profits t_profits ((v1 + (1 : Int32))).toNatClampNeg (v1).toNatClampNeg (((t_items - v1) - (1 : Int32))).toNatClampNeg)), rfl, (by dsimp only; exact h), x_end (w1 := [(a_t, .inr (1, [.ref a_t_weights, .ref a_t_profits, .int (t_items - (1 : Int32)), .int t_room, .int t_most, .int t_steps])), (a_t_weights, .inl (cy 0, 60, .inl (va_cpy t_weights t_weights ((v1 + (1 : Int32))).toNatClampNeg (v1).toNatClampNeg (((t_items - v1) - (1 : Int32))).toNatClampNeg))), (a_t_profits, .inl (cy 0, 60, .inl (va_cpy t_profits t_profits ((v1 + (1 : Int32))).toNatClampNeg (v1).toNatClampNeg (((t_items - v1) - (1 : Int32))).toNatClampNeg)))]) hP hD hK [0, 1, 2] rfl (by decide) (by first | exact rfl | (dsimp only; exact rfl)) ht hW⟩, hS.F ht⟩) hS.2.2 dX1_takeOut_64

/-- KnapsackCore$Ranked.breakIsItem()Z -/
def wX2_breakIsItem (t_items t_breakPlace : Int32) (post : Int32 → Prop)  : Prop :=
  (t_items ≤ t_breakPlace → post (0 : Int32)) ∧ (¬ t_items ≤ t_breakPlace → post (1 : Int32))
theorem kX2_breakIsItem_0 : Cond.fieldLink RX2 44 "KnapsackCore$Ranked" "breakPlace" "I" ∈ wsX2_breakIsItem := (List.mem_cons_of_mem _ (List.mem_append_left _ (List.mem_of_getElem? (i := 0) rfl)))
theorem kX2_breakIsItem_1 : Cond.fieldLink RX2 30 "KnapsackCore$Ranked" "items" "I" ∈ wsX2_breakIsItem := (List.mem_cons_of_mem _ (List.mem_append_left _ (List.mem_of_getElem? (i := 1) rfl)))
theorem iX2_breakIsItem_X2 : ∀ w ∈ u_ws RX2 TX2 9, w ∈ wsX2_breakIsItem := fun w h => (List.mem_cons_of_mem _ (List.mem_append_right _ h))
set_option maxHeartbeats 4000000 in
set_option maxRecDepth 100000 in
theorem mtX2_breakIsItem (l : Launch) (ad : (Nat → Nat) × (Nat → Nat)) (dC : Nat → ClassId) (dI : Nat → Nat → Nat) (cy : Nat → ClassId) (a_t a_t_itemAt a_t_placeOf a_t_weights a_t_profits : Nat) (sz : Nat) (t_items t_room t_breakPlace t_breakWeight t_breakProfit : Int32) {post : Int32 → Prop} (h : wX2_breakIsItem t_items t_breakPlace post) : xMi l yX2_breakIsItem wsX2_breakIsItem ({ frames := 0, cells := 0, slots := 0, locals := 0 } : Room) ad (dC, dI) vwCl (xT cy) [.ref a_t] [(a_t, .inr (2, [.ref a_t_itemAt, .ref a_t_placeOf, .ref a_t_weights, .ref a_t_profits, .int t_items, .int t_room, .int t_breakPlace, .int t_breakWeight, .int t_breakProfit]))] sz (fun (r : Int32) (_ : Unit) => post r) (fun (_ : Unit) w => w = [(a_t, .inr (2, [.ref a_t_itemAt, .ref a_t_placeOf, .ref a_t_weights, .ref a_t_profits, .int t_items, .int t_room, .int t_breakPlace, .int t_breakWeight, .int t_breakProfit]))]) 0 0 := by
  unfold xMi
  refine Met.ofW (cc := cX2_breakIsItem) (maxL := 1) (ret := (some .boolean)) (by decide +kernel) rfl ?_
  intro p e s m args below meth c s₁ B hml hv
  obtain ⟨rfl, hsz, hP, hK, hD0, hE⟩ := hv
  have hx := B.exec
  have hb := B.bytes
  have hr := B.returns
  have hts := atoms_spec (ws := wsX2_breakIsItem) B.pre
  have hown : s.vm.findClass RX2 = some m.cls := findClass_of_methodNamed B.named
  have hlocks := B.notSynchronized
  subst hsz
  have hD := hD0.self (sz := s.heap.size)
  generalize hAe : va_A [(a_t, .inr (2, [.ref a_t_itemAt, .ref a_t_placeOf, .ref a_t_weights, .ref a_t_profits, .int t_items, .int t_room, .int t_breakPlace, .int t_breakWeight, .int t_breakProfit]))] s.heap.size = A at hD hE ⊢
  have hA : ∀ q : Nat, s.heap.size ≤ q → A q := fun q h => by rw [← hAe]; exact Or.inr h
  have hS : va_S A s.heap s.heap [] := va_S.rf
  have hl := lv_entry ([.ref a_t]) (n := 1) (Nat.le_of_ble_eq_true rfl)
  rw [lg_entry_eq]
  generalize (lg_sl ([.ref a_t]) ++ List.replicate (1 - (lg_sl ([.ref a_t])).length) Slot.unset).toArray = ls at hl ⊢
  have hl : lv_has ls 1 [(0, .ref a_t)] := hl
  generalize hQ : MQ below _ _ s _ _ _ = Q
  generalize ([.ref a_t] : List Value).toArray = args at hts hQ ⊢
  clear B hD0 hAe
  refine lv_aload_n hx hb dX2_breakIsItem_0 rfl (lv_at hl 0 rfl) ?_
  refine va_get (D := (dC, dI)) (ci := 2) (v := .int t_breakPlace) (C := RX2) (T := TX2) (N := 9) hx hb hts iX2_breakIsItem_X2 hown hK hP 0 rfl rfl 6 (Nat.le_of_ble_eq_true rfl) (hts _ kX2_breakIsItem_0) (fun _ h9 => h9) rfl dX2_breakIsItem_1 ?_
  refine lv_aload_n hx hb dX2_breakIsItem_4 rfl (lv_at hl 0 rfl) ?_
  refine va_get (D := (dC, dI)) (ci := 2) (v := .int t_items) (C := RX2) (T := TX2) (N := 9) hx hb hts iX2_breakIsItem_X2 hown hK hP 0 rfl rfl 4 (Nat.le_of_ble_eq_true rfl) (hts _ kX2_breakIsItem_1) (fun _ h9 => h9) rfl dX2_breakIsItem_5 ?_
  refine lv_icmp_ge (tgt := 15) hx hb dX2_breakIsItem_8 (by decide) (fun c_1 => ?_) (fun c_1 => ?_)
  · replace h := h.1 c_1
    refine lv_iconst (v := 0) hx hb dX2_breakIsItem_15 (by decide) ?_
    rw [← hQ]
    exact W.zret (v := (0 : Int32)) hx hb hr rfl (fun t ht hW => ⟨⟨(0 : Int32), (), rfl, h, x_end (w1 := [(a_t, .inr (2, [.ref a_t_itemAt, .ref a_t_placeOf, .ref a_t_weights, .ref a_t_profits, .int t_items, .int t_room, .int t_breakPlace, .int t_breakWeight, .int t_breakProfit]))]) hP hD hK [0] rfl (by decide) rfl ht hW⟩, hS.F ht⟩) hS.2.2 dX2_breakIsItem_16
  · replace h := h.2 c_1
    refine lv_iconst (v := 1) hx hb dX2_breakIsItem_11 (by decide) ?_
    refine lv_goto (tgt := 16) hx hb dX2_breakIsItem_12 (by decide) ?_
    rw [← hQ]
    exact W.zret (v := (1 : Int32)) hx hb hr rfl (fun t ht hW => ⟨⟨(1 : Int32), (), rfl, h, x_end (w1 := [(a_t, .inr (2, [.ref a_t_itemAt, .ref a_t_placeOf, .ref a_t_weights, .ref a_t_profits, .int t_items, .int t_room, .int t_breakPlace, .int t_breakWeight, .int t_breakProfit]))]) hP hD hK [0] rfl (by decide) rfl ht hW⟩, hS.F ht⟩) hS.2.2 dX2_breakIsItem_16

def wX2_findBreak_15_b (t_items t_room : Int32) (t_weights t_profits : Nat → Int32) (post : Int32 → Int32 → Int32 → Prop) (K15 : Int32 → Int32 → Int32 → Prop) (t_breakPlace t_breakWeight t_breakProfit : Int32) : Prop :=
  (t_items ≤ t_breakPlace → post t_breakPlace t_breakWeight t_breakProfit) ∧ (¬ t_items ≤ t_breakPlace → vp_in t_breakPlace 60 ∧ ((t_room).toInt64 < ((t_breakWeight).toInt64 + ((t_weights (t_breakPlace).toNatClampNeg)).toInt64) → post t_breakPlace t_breakWeight t_breakProfit) ∧ (¬ (t_room).toInt64 < ((t_breakWeight).toInt64 + ((t_weights (t_breakPlace).toNatClampNeg)).toInt64) → vp_in t_breakPlace 60 ∧ vp_in t_breakPlace 60 ∧ K15 (t_breakPlace + (1 : Int32)) (t_breakWeight + (t_weights (t_breakPlace).toNatClampNeg)) (t_breakProfit + (t_profits (t_breakPlace).toNatClampNeg))))
def wX2_findBreak_15 (t_items t_room : Int32) (t_weights t_profits : Nat → Int32) (post : Int32 → Int32 → Int32 → Prop) : Nat → Int32 → Int32 → Int32 → Prop
  | 0 => fun _ _ _ => False
  | n + 1 => wX2_findBreak_15_b t_items t_room t_weights t_profits post (wX2_findBreak_15 t_items t_room t_weights t_profits post n)
/-- KnapsackCore$Ranked.findBreak()V -/
def wX2_findBreak (t_items t_room : Int32) (t_weights t_profits : Nat → Int32) (post : Int32 → Int32 → Int32 → Prop) (t_breakPlace t_breakWeight t_breakProfit : Int32) : Prop :=
  ∃ n : Nat, wX2_findBreak_15 t_items t_room t_weights t_profits post n (0 : Int32) (0 : Int32) (0 : Int32)
theorem kX2_findBreak_0 : Cond.fieldLink RX2 44 "KnapsackCore$Ranked" "breakPlace" "I" ∈ wsX2_findBreak := (List.mem_cons_of_mem _ (List.mem_append_left _ (List.mem_of_getElem? (i := 0) rfl)))
theorem kX2_findBreak_1 : Cond.fieldLink RX2 30 "KnapsackCore$Ranked" "items" "I" ∈ wsX2_findBreak := (List.mem_cons_of_mem _ (List.mem_append_left _ (List.mem_of_getElem? (i := 3) rfl)))
theorem kX2_findBreak_2 : Cond.fieldLink RX2 47 "KnapsackCore$Ranked" "breakWeight" "I" ∈ wsX2_findBreak := (List.mem_cons_of_mem _ (List.mem_append_left _ (List.mem_of_getElem? (i := 1) rfl)))
theorem kX2_findBreak_3 : Cond.fieldLink RX2 18 "KnapsackCore$Ranked" "weights" "[I" ∈ wsX2_findBreak := (List.mem_cons_of_mem _ (List.mem_append_left _ (List.mem_of_getElem? (i := 4) rfl)))
theorem kX2_findBreak_4 : Cond.fieldLink RX2 34 "KnapsackCore$Ranked" "room" "I" ∈ wsX2_findBreak := (List.mem_cons_of_mem _ (List.mem_append_left _ (List.mem_of_getElem? (i := 5) rfl)))
theorem kX2_findBreak_5 : Cond.fieldLink RX2 50 "KnapsackCore$Ranked" "breakProfit" "I" ∈ wsX2_findBreak := (List.mem_cons_of_mem _ (List.mem_append_left _ (List.mem_of_getElem? (i := 2) rfl)))
theorem kX2_findBreak_6 : Cond.fieldLink RX2 21 "KnapsackCore$Ranked" "profits" "[I" ∈ wsX2_findBreak := (List.mem_cons_of_mem _ (List.mem_append_left _ (List.mem_of_getElem? (i := 6) rfl)))
theorem iX2_findBreak_X2 : ∀ w ∈ u_ws RX2 TX2 9, w ∈ wsX2_findBreak := fun w h => (List.mem_cons_of_mem _ (List.mem_append_right _ h))
set_option maxHeartbeats 4000000 in
set_option maxRecDepth 100000 in
theorem mtX2_findBreak (l : Launch) (ad : (Nat → Nat) × (Nat → Nat)) (dC : Nat → ClassId) (dI : Nat → Nat → Nat) (cy : Nat → ClassId) (a_t a_t_itemAt a_t_placeOf a_t_weights a_t_profits : Nat) (sz : Nat) (t_items t_room t_breakPlace t_breakWeight t_breakProfit : Int32) (t_weights t_profits : Nat → Int32) {post : Int32 → Int32 → Int32 → Prop} (h : wX2_findBreak t_items t_room t_weights t_profits post t_breakPlace t_breakWeight t_breakProfit) : xMv l yX2_findBreak wsX2_findBreak ({ frames := 0, cells := 0, slots := 0, locals := 0 } : Room) ad (dC, dI) vwCl (xT cy) [.ref a_t] [(a_t, .inr (2, [.ref a_t_itemAt, .ref a_t_placeOf, .ref a_t_weights, .ref a_t_profits, .int t_items, .int t_room, .int t_breakPlace, .int t_breakWeight, .int t_breakProfit])), (a_t_weights, .inl (cy 0, 60, .inl t_weights)), (a_t_profits, .inl (cy 0, 60, .inl t_profits))] sz (fun (u : Int32 × Int32 × Int32) => post u.1 u.2.1 u.2.2) (fun (u : Int32 × Int32 × Int32) w => w = [(a_t, .inr (2, [.ref a_t_itemAt, .ref a_t_placeOf, .ref a_t_weights, .ref a_t_profits, .int t_items, .int t_room, .int u.1, .int u.2.1, .int u.2.2])), (a_t_weights, .inl (cy 0, 60, .inl t_weights)), (a_t_profits, .inl (cy 0, 60, .inl t_profits))]) 0 0 := by
  unfold xMv
  refine Met.ofW (cc := cX2_findBreak) (maxL := 1) (ret := none) (by decide +kernel) rfl ?_
  intro p e s m args below meth c s₁ B hml hv
  obtain ⟨rfl, hsz, hP, hK, hD0, hE⟩ := hv
  have hx := B.exec
  have hb := B.bytes
  have hr := B.returns
  have hts := atoms_spec (ws := wsX2_findBreak) B.pre
  have hown : s.vm.findClass RX2 = some m.cls := findClass_of_methodNamed B.named
  have hlocks := B.notSynchronized
  subst hsz
  have hD := hD0.self (sz := s.heap.size)
  generalize hAe : va_A [(a_t, .inr (2, [.ref a_t_itemAt, .ref a_t_placeOf, .ref a_t_weights, .ref a_t_profits, .int t_items, .int t_room, .int t_breakPlace, .int t_breakWeight, .int t_breakProfit])), (a_t_weights, .inl (cy 0, 60, .inl t_weights)), (a_t_profits, .inl (cy 0, 60, .inl t_profits))] s.heap.size = A at hD hE ⊢
  have hA : ∀ q : Nat, s.heap.size ≤ q → A q := fun q h => by rw [← hAe]; exact Or.inr h
  have hS : va_S A s.heap s.heap [] := va_S.rf
  have hl := lv_entry ([.ref a_t]) (n := 1) (Nat.le_of_ble_eq_true rfl)
  rw [lg_entry_eq]
  generalize (lg_sl ([.ref a_t]) ++ List.replicate (1 - (lg_sl ([.ref a_t])).length) Slot.unset).toArray = ls at hl ⊢
  have hl : lv_has ls 1 [(0, .ref a_t)] := hl
  generalize hQ : MQ below _ _ s _ _ _ = Q
  generalize ([.ref a_t] : List Value).toArray = args at hts hQ ⊢
  clear B hD0 hAe
  have L15 : ∀ n : Nat, ∀ (t_breakPlace t_breakWeight t_breakProfit : Int32), wX2_findBreak_15 t_items t_room t_weights t_profits post n t_breakPlace t_breakWeight t_breakProfit → ∀ (H : Heap) (locs : List Loc) (ls : Array Slot), va_P (dC, dI) vwCl [(a_t, .inr (2, [.ref a_t_itemAt, .ref a_t_placeOf, .ref a_t_weights, .ref a_t_profits, .int t_items, .int t_room, .int t_breakPlace, .int t_breakWeight, .int t_breakProfit])), (a_t_weights, .inl (cy 0, 60, .inl t_weights)), (a_t_profits, .inl (cy 0, 60, .inl t_profits))] H → va_D A [(a_t, .inr (2, [.ref a_t_itemAt, .ref a_t_placeOf, .ref a_t_weights, .ref a_t_profits, .int t_items, .int t_room, .int t_breakPlace, .int t_breakWeight, .int t_breakProfit])), (a_t_weights, .inl (cy 0, 60, .inl t_weights)), (a_t_profits, .inl (cy 0, 60, .inl t_profits))] → va_S A s.heap H locs → lv_has ls 1 [(0, .ref a_t)] → W p l e (headSpec wsX2_findBreak ({ frames := 0, cells := 0, slots := 0, locals := 0 } : Room)).room s m args below meth c H locs 0 0 Q (F0 m 15 ls []) := by
    intro n
    induction n with
    | zero => intro t_breakPlace t_breakWeight t_breakProfit h; exact False.elim h
    | succ n15 ih15 =>
      intro t_breakPlace t_breakWeight t_breakProfit h H locs ls hP hD hS hl
      replace h : wX2_findBreak_15_b t_items t_room t_weights t_profits post (wX2_findBreak_15 t_items t_room t_weights t_profits post n15) t_breakPlace t_breakWeight t_breakProfit := h
      refine lv_aload_n hx hb dX2_findBreak_15 rfl (lv_at hl 0 rfl) ?_
      refine va_get (D := (dC, dI)) (ci := 2) (v := .int t_breakPlace) (C := RX2) (T := TX2) (N := 9) hx hb hts iX2_findBreak_X2 hown hK hP 0 rfl rfl 6 (Nat.le_of_ble_eq_true rfl) (hts _ kX2_findBreak_0) (fun _ h9 => h9) rfl dX2_findBreak_16 ?_
      refine lv_aload_n hx hb dX2_findBreak_19 rfl (lv_at hl 0 rfl) ?_
      refine va_get (D := (dC, dI)) (ci := 2) (v := .int t_items) (C := RX2) (T := TX2) (N := 9) hx hb hts iX2_findBreak_X2 hown hK hP 0 rfl rfl 4 (Nat.le_of_ble_eq_true rfl) (hts _ kX2_findBreak_1) (fun _ h9 => h9) rfl dX2_findBreak_20 ?_
      refine lv_icmp_ge (tgt := 100) hx hb dX2_findBreak_23 (by decide) (fun c_1 => ?_) (fun c_1 => ?_)
      · replace h := h.1 c_1
        rw [← hQ]
        exact W.vret hx hb hr (fun t ht hW => ⟨⟨(t_breakPlace, t_breakWeight, t_breakProfit), rfl, (by dsimp only; exact h), x_end (w1 := [(a_t, .inr (2, [.ref a_t_itemAt, .ref a_t_placeOf, .ref a_t_weights, .ref a_t_profits, .int t_items, .int t_room, .int t_breakPlace, .int t_breakWeight, .int t_breakProfit])), (a_t_weights, .inl (cy 0, 60, .inl t_weights)), (a_t_profits, .inl (cy 0, 60, .inl t_profits))]) hP hD hK [0, 1, 2] rfl (by decide) (by first | exact rfl | (dsimp only; exact rfl)) ht hW⟩, hS.F ht⟩) hS.2.2 dX2_findBreak_100
      · replace h := h.2 c_1
        refine lv_aload_n hx hb dX2_findBreak_26 rfl (lv_at hl 0 rfl) ?_
        refine va_get (D := (dC, dI)) (ci := 2) (v := .int t_breakWeight) (C := RX2) (T := TX2) (N := 9) hx hb hts iX2_findBreak_X2 hown hK hP 0 rfl rfl 7 (Nat.le_of_ble_eq_true rfl) (hts _ kX2_findBreak_2) (fun _ h9 => h9) rfl dX2_findBreak_27 ?_
        refine lv_i2l hx hb dX2_findBreak_30 rfl ?_
        refine lv_aload_n hx hb dX2_findBreak_31 rfl (lv_at hl 0 rfl) ?_
        refine va_get (D := (dC, dI)) (ci := 2) (v := .ref a_t_weights) (C := RX2) (T := TX2) (N := 9) hx hb hts iX2_findBreak_X2 hown hK hP 0 rfl rfl 2 (Nat.le_of_ble_eq_true rfl) (hts _ kX2_findBreak_3) (fun _ h9 => h9) rfl dX2_findBreak_32 ?_
        refine lv_aload_n hx hb dX2_findBreak_35 rfl (lv_at hl 0 rfl) ?_
        refine va_get (D := (dC, dI)) (ci := 2) (v := .int t_breakPlace) (C := RX2) (T := TX2) (N := 9) hx hb hts iX2_findBreak_X2 hown hK hP 0 rfl rfl 6 (Nat.le_of_ble_eq_true rfl) (hts _ kX2_findBreak_0) (fun _ h9 => h9) rfl dX2_findBreak_36 ?_
        refine va_iald (D := (dC, dI)) hx hb hK hP 1 0 rfl rfl h.1 dX2_findBreak_39 ?_
        replace h := h.2
        refine lv_i2l hx hb dX2_findBreak_40 rfl ?_
        refine lv_ladd hx hb dX2_findBreak_41 ?_
        refine lv_aload_n hx hb dX2_findBreak_42 rfl (lv_at hl 0 rfl) ?_
        refine va_get (D := (dC, dI)) (ci := 2) (v := .int t_room) (C := RX2) (T := TX2) (N := 9) hx hb hts iX2_findBreak_X2 hown hK hP 0 rfl rfl 5 (Nat.le_of_ble_eq_true rfl) (hts _ kX2_findBreak_4) (fun _ h9 => h9) rfl dX2_findBreak_43 ?_
        refine lv_i2l hx hb dX2_findBreak_46 rfl ?_
        refine W.lcmp hx hb dX2_findBreak_47 ?_
        refine lv_if_gt (tgt := 100) hx hb dX2_findBreak_48 (by decide) (fun c_2 => ?_) (fun c_2 => ?_)
        · replace h := h.1 ((lg_cmp_gt _ _).mp c_2)
          rw [← hQ]
          exact W.vret hx hb hr (fun t ht hW => ⟨⟨(t_breakPlace, t_breakWeight, t_breakProfit), rfl, (by dsimp only; exact h), x_end (w1 := [(a_t, .inr (2, [.ref a_t_itemAt, .ref a_t_placeOf, .ref a_t_weights, .ref a_t_profits, .int t_items, .int t_room, .int t_breakPlace, .int t_breakWeight, .int t_breakProfit])), (a_t_weights, .inl (cy 0, 60, .inl t_weights)), (a_t_profits, .inl (cy 0, 60, .inl t_profits))]) hP hD hK [0, 1, 2] rfl (by decide) (by first | exact rfl | (dsimp only; exact rfl)) ht hW⟩, hS.F ht⟩) hS.2.2 dX2_findBreak_100
        · replace h := h.2 (fun z9 => c_2 ((lg_cmp_gt _ _).mpr z9))
          refine lv_aload_n hx hb dX2_findBreak_51 rfl (lv_at hl 0 rfl) ?_
          refine lv_dup hx hb dX2_findBreak_52 rfl ?_
          refine va_get (D := (dC, dI)) (ci := 2) (v := .int t_breakWeight) (C := RX2) (T := TX2) (N := 9) hx hb hts iX2_findBreak_X2 hown hK hP 0 rfl rfl 7 (Nat.le_of_ble_eq_true rfl) (hts _ kX2_findBreak_2) (fun _ h9 => h9) rfl dX2_findBreak_53 ?_
          refine lv_aload_n hx hb dX2_findBreak_56 rfl (lv_at hl 0 rfl) ?_
          refine va_get (D := (dC, dI)) (ci := 2) (v := .ref a_t_weights) (C := RX2) (T := TX2) (N := 9) hx hb hts iX2_findBreak_X2 hown hK hP 0 rfl rfl 2 (Nat.le_of_ble_eq_true rfl) (hts _ kX2_findBreak_3) (fun _ h9 => h9) rfl dX2_findBreak_57 ?_
          refine lv_aload_n hx hb dX2_findBreak_60 rfl (lv_at hl 0 rfl) ?_
          refine va_get (D := (dC, dI)) (ci := 2) (v := .int t_breakPlace) (C := RX2) (T := TX2) (N := 9) hx hb hts iX2_findBreak_X2 hown hK hP 0 rfl rfl 6 (Nat.le_of_ble_eq_true rfl) (hts _ kX2_findBreak_0) (fun _ h9 => h9) rfl dX2_findBreak_61 ?_
          refine va_iald (D := (dC, dI)) hx hb hK hP 1 0 rfl rfl h.1 dX2_findBreak_64 ?_
          replace h := h.2
          refine lv_iadd hx hb dX2_findBreak_65 ?_
          refine va_put (D := (dC, dI)) (ci := 2) (v := .int (t_breakWeight + (t_weights (t_breakPlace).toNatClampNeg))) (C := RX2) (T := TX2) (N := 9) hx hb hts iX2_findBreak_X2 tyX2 tyX2_ok nmX2 hown hK hP hD hS 0 rfl rfl 7 (Nat.le_of_ble_eq_true rfl) (hts _ kX2_findBreak_2) (fun _ h9 => h9) rfl (tyX2_ok 7 (Nat.le_of_ble_eq_true rfl)) rfl rfl (Nat.le_of_ble_eq_true rfl) dX2_findBreak_66 (fun H locs hP hD hS => ?_)
          have hP : va_P (dC, dI) vwCl [(a_t, .inr (2, [.ref a_t_itemAt, .ref a_t_placeOf, .ref a_t_weights, .ref a_t_profits, .int t_items, .int t_room, .int t_breakPlace, .int (t_breakWeight + (t_weights (t_breakPlace).toNatClampNeg)), .int t_breakProfit])), (a_t_weights, .inl (cy 0, 60, .inl t_weights)), (a_t_profits, .inl (cy 0, 60, .inl t_profits))] H := hP
          have hD : va_D A [(a_t, .inr (2, [.ref a_t_itemAt, .ref a_t_placeOf, .ref a_t_weights, .ref a_t_profits, .int t_items, .int t_room, .int t_breakPlace, .int (t_breakWeight + (t_weights (t_breakPlace).toNatClampNeg)), .int t_breakProfit])), (a_t_weights, .inl (cy 0, 60, .inl t_weights)), (a_t_profits, .inl (cy 0, 60, .inl t_profits))] := hD
          refine lv_aload_n hx hb dX2_findBreak_69 rfl (lv_at hl 0 rfl) ?_
          refine lv_dup hx hb dX2_findBreak_70 rfl ?_
          refine va_get (D := (dC, dI)) (ci := 2) (v := .int t_breakProfit) (C := RX2) (T := TX2) (N := 9) hx hb hts iX2_findBreak_X2 hown hK hP 0 rfl rfl 8 (Nat.le_of_ble_eq_true rfl) (hts _ kX2_findBreak_5) (fun _ h9 => h9) rfl dX2_findBreak_71 ?_
          refine lv_aload_n hx hb dX2_findBreak_74 rfl (lv_at hl 0 rfl) ?_
          refine va_get (D := (dC, dI)) (ci := 2) (v := .ref a_t_profits) (C := RX2) (T := TX2) (N := 9) hx hb hts iX2_findBreak_X2 hown hK hP 0 rfl rfl 3 (Nat.le_of_ble_eq_true rfl) (hts _ kX2_findBreak_6) (fun _ h9 => h9) rfl dX2_findBreak_75 ?_
          refine lv_aload_n hx hb dX2_findBreak_78 rfl (lv_at hl 0 rfl) ?_
          refine va_get (D := (dC, dI)) (ci := 2) (v := .int t_breakPlace) (C := RX2) (T := TX2) (N := 9) hx hb hts iX2_findBreak_X2 hown hK hP 0 rfl rfl 6 (Nat.le_of_ble_eq_true rfl) (hts _ kX2_findBreak_0) (fun _ h9 => h9) rfl dX2_findBreak_79 ?_
          refine va_iald (D := (dC, dI)) hx hb hK hP 2 0 rfl rfl h.1 dX2_findBreak_82 ?_
          replace h := h.2
          refine lv_iadd hx hb dX2_findBreak_83 ?_
          refine va_put (D := (dC, dI)) (ci := 2) (v := .int (t_breakProfit + (t_profits (t_breakPlace).toNatClampNeg))) (C := RX2) (T := TX2) (N := 9) hx hb hts iX2_findBreak_X2 tyX2 tyX2_ok nmX2 hown hK hP hD hS 0 rfl rfl 8 (Nat.le_of_ble_eq_true rfl) (hts _ kX2_findBreak_5) (fun _ h9 => h9) rfl (tyX2_ok 8 (Nat.le_of_ble_eq_true rfl)) rfl rfl (Nat.le_of_ble_eq_true rfl) dX2_findBreak_84 (fun H locs hP hD hS => ?_)
          have hP : va_P (dC, dI) vwCl [(a_t, .inr (2, [.ref a_t_itemAt, .ref a_t_placeOf, .ref a_t_weights, .ref a_t_profits, .int t_items, .int t_room, .int t_breakPlace, .int (t_breakWeight + (t_weights (t_breakPlace).toNatClampNeg)), .int (t_breakProfit + (t_profits (t_breakPlace).toNatClampNeg))])), (a_t_weights, .inl (cy 0, 60, .inl t_weights)), (a_t_profits, .inl (cy 0, 60, .inl t_profits))] H := hP
          have hD : va_D A [(a_t, .inr (2, [.ref a_t_itemAt, .ref a_t_placeOf, .ref a_t_weights, .ref a_t_profits, .int t_items, .int t_room, .int t_breakPlace, .int (t_breakWeight + (t_weights (t_breakPlace).toNatClampNeg)), .int (t_breakProfit + (t_profits (t_breakPlace).toNatClampNeg))])), (a_t_weights, .inl (cy 0, 60, .inl t_weights)), (a_t_profits, .inl (cy 0, 60, .inl t_profits))] := hD
          refine lv_aload_n hx hb dX2_findBreak_87 rfl (lv_at hl 0 rfl) ?_
          refine lv_dup hx hb dX2_findBreak_88 rfl ?_
          refine va_get (D := (dC, dI)) (ci := 2) (v := .int t_breakPlace) (C := RX2) (T := TX2) (N := 9) hx hb hts iX2_findBreak_X2 hown hK hP 0 rfl rfl 6 (Nat.le_of_ble_eq_true rfl) (hts _ kX2_findBreak_0) (fun _ h9 => h9) rfl dX2_findBreak_89 ?_
          refine lv_iconst (v := 1) hx hb dX2_findBreak_92 (by decide) ?_
          refine lv_iadd hx hb dX2_findBreak_93 ?_
          refine va_put (D := (dC, dI)) (ci := 2) (v := .int (t_breakPlace + (1 : Int32))) (C := RX2) (T := TX2) (N := 9) hx hb hts iX2_findBreak_X2 tyX2 tyX2_ok nmX2 hown hK hP hD hS 0 rfl rfl 6 (Nat.le_of_ble_eq_true rfl) (hts _ kX2_findBreak_0) (fun _ h9 => h9) rfl (tyX2_ok 6 (Nat.le_of_ble_eq_true rfl)) rfl rfl (Nat.le_of_ble_eq_true rfl) dX2_findBreak_94 (fun H locs hP hD hS => ?_)
          have hP : va_P (dC, dI) vwCl [(a_t, .inr (2, [.ref a_t_itemAt, .ref a_t_placeOf, .ref a_t_weights, .ref a_t_profits, .int t_items, .int t_room, .int (t_breakPlace + (1 : Int32)), .int (t_breakWeight + (t_weights (t_breakPlace).toNatClampNeg)), .int (t_breakProfit + (t_profits (t_breakPlace).toNatClampNeg))])), (a_t_weights, .inl (cy 0, 60, .inl t_weights)), (a_t_profits, .inl (cy 0, 60, .inl t_profits))] H := hP
          have hD : va_D A [(a_t, .inr (2, [.ref a_t_itemAt, .ref a_t_placeOf, .ref a_t_weights, .ref a_t_profits, .int t_items, .int t_room, .int (t_breakPlace + (1 : Int32)), .int (t_breakWeight + (t_weights (t_breakPlace).toNatClampNeg)), .int (t_breakProfit + (t_profits (t_breakPlace).toNatClampNeg))])), (a_t_weights, .inl (cy 0, 60, .inl t_weights)), (a_t_profits, .inl (cy 0, 60, .inl t_profits))] := hD
          refine lv_goto (tgt := 15) hx hb dX2_findBreak_97 (by decide) ?_
          exact ih15 (t_breakPlace + (1 : Int32)) (t_breakWeight + (t_weights (t_breakPlace).toNatClampNeg)) (t_breakProfit + (t_profits (t_breakPlace).toNatClampNeg)) h _ _ _ (x_sub hP [0, 1, 2] rfl) (hD.sub [0, 1, 2] (by decide) rfl) hS (lv_sub hl [0] rfl)
  refine lv_aload_n hx hb dX2_findBreak_0 rfl (lv_at hl 0 rfl) ?_
  refine lv_iconst (v := 0) hx hb dX2_findBreak_1 (by decide) ?_
  refine va_put (D := (dC, dI)) (ci := 2) (v := .int (0 : Int32)) (C := RX2) (T := TX2) (N := 9) hx hb hts iX2_findBreak_X2 tyX2 tyX2_ok nmX2 hown hK hP hD hS 0 rfl rfl 6 (Nat.le_of_ble_eq_true rfl) (hts _ kX2_findBreak_0) (fun _ h9 => h9) rfl (tyX2_ok 6 (Nat.le_of_ble_eq_true rfl)) rfl rfl (Nat.le_of_ble_eq_true rfl) dX2_findBreak_2 (fun H locs hP hD hS => ?_)
  have hP : va_P (dC, dI) vwCl [(a_t, .inr (2, [.ref a_t_itemAt, .ref a_t_placeOf, .ref a_t_weights, .ref a_t_profits, .int t_items, .int t_room, .int (0 : Int32), .int t_breakWeight, .int t_breakProfit])), (a_t_weights, .inl (cy 0, 60, .inl t_weights)), (a_t_profits, .inl (cy 0, 60, .inl t_profits))] H := hP
  have hD : va_D A [(a_t, .inr (2, [.ref a_t_itemAt, .ref a_t_placeOf, .ref a_t_weights, .ref a_t_profits, .int t_items, .int t_room, .int (0 : Int32), .int t_breakWeight, .int t_breakProfit])), (a_t_weights, .inl (cy 0, 60, .inl t_weights)), (a_t_profits, .inl (cy 0, 60, .inl t_profits))] := hD
  refine lv_aload_n hx hb dX2_findBreak_5 rfl (lv_at hl 0 rfl) ?_
  refine lv_iconst (v := 0) hx hb dX2_findBreak_6 (by decide) ?_
  refine va_put (D := (dC, dI)) (ci := 2) (v := .int (0 : Int32)) (C := RX2) (T := TX2) (N := 9) hx hb hts iX2_findBreak_X2 tyX2 tyX2_ok nmX2 hown hK hP hD hS 0 rfl rfl 7 (Nat.le_of_ble_eq_true rfl) (hts _ kX2_findBreak_2) (fun _ h9 => h9) rfl (tyX2_ok 7 (Nat.le_of_ble_eq_true rfl)) rfl rfl (Nat.le_of_ble_eq_true rfl) dX2_findBreak_7 (fun H locs hP hD hS => ?_)
  have hP : va_P (dC, dI) vwCl [(a_t, .inr (2, [.ref a_t_itemAt, .ref a_t_placeOf, .ref a_t_weights, .ref a_t_profits, .int t_items, .int t_room, .int (0 : Int32), .int (0 : Int32), .int t_breakProfit])), (a_t_weights, .inl (cy 0, 60, .inl t_weights)), (a_t_profits, .inl (cy 0, 60, .inl t_profits))] H := hP
  have hD : va_D A [(a_t, .inr (2, [.ref a_t_itemAt, .ref a_t_placeOf, .ref a_t_weights, .ref a_t_profits, .int t_items, .int t_room, .int (0 : Int32), .int (0 : Int32), .int t_breakProfit])), (a_t_weights, .inl (cy 0, 60, .inl t_weights)), (a_t_profits, .inl (cy 0, 60, .inl t_profits))] := hD
  refine lv_aload_n hx hb dX2_findBreak_10 rfl (lv_at hl 0 rfl) ?_
  refine lv_iconst (v := 0) hx hb dX2_findBreak_11 (by decide) ?_
  refine va_put (D := (dC, dI)) (ci := 2) (v := .int (0 : Int32)) (C := RX2) (T := TX2) (N := 9) hx hb hts iX2_findBreak_X2 tyX2 tyX2_ok nmX2 hown hK hP hD hS 0 rfl rfl 8 (Nat.le_of_ble_eq_true rfl) (hts _ kX2_findBreak_5) (fun _ h9 => h9) rfl (tyX2_ok 8 (Nat.le_of_ble_eq_true rfl)) rfl rfl (Nat.le_of_ble_eq_true rfl) dX2_findBreak_12 (fun H locs hP hD hS => ?_)
  have hP : va_P (dC, dI) vwCl [(a_t, .inr (2, [.ref a_t_itemAt, .ref a_t_placeOf, .ref a_t_weights, .ref a_t_profits, .int t_items, .int t_room, .int (0 : Int32), .int (0 : Int32), .int (0 : Int32)])), (a_t_weights, .inl (cy 0, 60, .inl t_weights)), (a_t_profits, .inl (cy 0, 60, .inl t_profits))] H := hP
  have hD : va_D A [(a_t, .inr (2, [.ref a_t_itemAt, .ref a_t_placeOf, .ref a_t_weights, .ref a_t_profits, .int t_items, .int t_room, .int (0 : Int32), .int (0 : Int32), .int (0 : Int32)])), (a_t_weights, .inl (cy 0, 60, .inl t_weights)), (a_t_profits, .inl (cy 0, 60, .inl t_profits))] := hD
  obtain ⟨n9, h⟩ := h
  exact L15 n9 (0 : Int32) (0 : Int32) (0 : Int32) h _ _ _ (x_sub hP [0, 1, 2] rfl) (hD.sub [0, 1, 2] (by decide) rfl) hS (lv_sub hl [0] rfl)

theorem qX1_isBetter : yX1_isBetter.cls = RX1 ∧ yX1_isBetter.cls ≠ "java/lang/invoke/MethodHandle" ∧ yX1_isBetter.cls ≠ "java/lang/invoke/VarHandle" ∧ (parseMethodDescriptor yX1_isBetter.desc).map (fun d => d.parameters.length) = some 2 := by decide +kernel
theorem qX2_findBreak : yX2_findBreak.cls = RX2 ∧ yX2_findBreak.cls ≠ "java/lang/invoke/MethodHandle" ∧ yX2_findBreak.cls ≠ "java/lang/invoke/VarHandle" ∧ (parseMethodDescriptor yX2_findBreak.desc).map (fun d => d.parameters.length) = some 0 := by decide +kernel
def wX2_rank_83_b (p1_items p1_room : Int32) (p1_profits p1_weights : Nat → Int32) (post : Int32 → Int32 → Int32 → Int32 → Int32 → (Nat → Int32) → (Nat → Int32) → (Nat → Int32) → (Nat → Int32) → Prop) (K83 : Int32 → Int32 → Int32 → Int32 → Int32 → (Nat → Int32) → (Nat → Int32) → (Nat → Int32) → (Nat → Int32) → Int32 → Prop) (t_items t_room t_breakPlace t_breakWeight t_breakProfit : Int32) (t_itemAt t_placeOf t_weights t_profits : Nat → Int32) (v2 : Int32) : Prop :=
  (t_items ≤ v2 → wX2_findBreak t_items t_room t_weights t_profits (fun m144_0 m144_1 m144_2 => post t_items t_room m144_0 m144_1 m144_2 t_itemAt t_placeOf t_weights t_profits) t_breakPlace t_breakWeight t_breakProfit) ∧ (¬ t_items ≤ v2 → vp_in v2 60 ∧ vp_in (t_itemAt (v2).toNatClampNeg) 60 ∧ vp_in v2 60 ∧ vp_in (t_itemAt (v2).toNatClampNeg) 60 ∧ vp_in v2 60 ∧ vp_in v2 60 ∧ vp_in (t_itemAt (v2).toNatClampNeg) 60 ∧ vp_in v2 60 ∧ K83 t_items t_room t_breakPlace t_breakWeight t_breakProfit t_itemAt (upd t_placeOf ((t_itemAt (v2).toNatClampNeg)).toNatClampNeg v2) (upd t_weights (v2).toNatClampNeg (p1_weights ((t_itemAt (v2).toNatClampNeg)).toNatClampNeg)) (upd t_profits (v2).toNatClampNeg (p1_profits ((t_itemAt (v2).toNatClampNeg)).toNatClampNeg)) (v2 + (1 : Int32)))
def wX2_rank_83 (p1_items p1_room : Int32) (p1_profits p1_weights : Nat → Int32) (post : Int32 → Int32 → Int32 → Int32 → Int32 → (Nat → Int32) → (Nat → Int32) → (Nat → Int32) → (Nat → Int32) → Prop) : Nat → Int32 → Int32 → Int32 → Int32 → Int32 → (Nat → Int32) → (Nat → Int32) → (Nat → Int32) → (Nat → Int32) → Int32 → Prop
  | 0 => fun _ _ _ _ _ _ _ _ _ _ => False
  | n + 1 => wX2_rank_83_b p1_items p1_room p1_profits p1_weights post (wX2_rank_83 p1_items p1_room p1_profits p1_weights post n)
def wX2_rank_68 (p1_items p1_room : Int32) (p1_profits p1_weights : Nat → Int32) (K18 : Int32 → Int32 → Int32 → Int32 → Int32 → (Nat → Int32) → (Nat → Int32) → (Nat → Int32) → (Nat → Int32) → Int32 → Prop) (post : Int32 → Int32 → Int32 → Int32 → Int32 → (Nat → Int32) → (Nat → Int32) → (Nat → Int32) → (Nat → Int32) → Prop) (t_items t_room t_breakPlace t_breakWeight t_breakProfit : Int32) (t_itemAt t_placeOf t_weights t_profits : Nat → Int32) (v2 v3 : Int32) : Prop :=
  vp_in v3 60 ∧ K18 t_items t_room t_breakPlace t_breakWeight t_breakProfit (upd t_itemAt (v3).toNatClampNeg v2) t_placeOf t_weights t_profits (v2 + (1 : Int32))
def wX2_rank_45 (p1_items p1_room : Int32) (p1_profits p1_weights : Nat → Int32) (K18 : Int32 → Int32 → Int32 → Int32 → Int32 → (Nat → Int32) → (Nat → Int32) → (Nat → Int32) → (Nat → Int32) → Int32 → Prop) (K28 : Int32 → Int32 → Int32 → Int32 → Int32 → (Nat → Int32) → (Nat → Int32) → (Nat → Int32) → (Nat → Int32) → Int32 → Int32 → Prop) (post : Int32 → Int32 → Int32 → Int32 → Int32 → (Nat → Int32) → (Nat → Int32) → (Nat → Int32) → (Nat → Int32) → Prop) (t_items t_room t_breakPlace t_breakWeight t_breakProfit : Int32) (t_itemAt t_placeOf t_weights t_profits : Nat → Int32) (v2 v3 k0 : Int32) : Prop :=
  (k0 = (0 : Int32) → wX2_rank_68 p1_items p1_room p1_profits p1_weights K18 post t_items t_room t_breakPlace t_breakWeight t_breakProfit t_itemAt t_placeOf t_weights t_profits v2 v3) ∧ (¬ k0 = (0 : Int32) → vp_in (v3 - (1 : Int32)) 60 ∧ vp_in v3 60 ∧ K28 t_items t_room t_breakPlace t_breakWeight t_breakProfit (upd t_itemAt (v3).toNatClampNeg (t_itemAt ((v3 - (1 : Int32))).toNatClampNeg)) t_placeOf t_weights t_profits v2 (v3 + (-1 : Int32)))
def wX2_rank_28_b (p1_items p1_room : Int32) (p1_profits p1_weights : Nat → Int32) (K18 : Int32 → Int32 → Int32 → Int32 → Int32 → (Nat → Int32) → (Nat → Int32) → (Nat → Int32) → (Nat → Int32) → Int32 → Prop) (post : Int32 → Int32 → Int32 → Int32 → Int32 → (Nat → Int32) → (Nat → Int32) → (Nat → Int32) → (Nat → Int32) → Prop) (K28 : Int32 → Int32 → Int32 → Int32 → Int32 → (Nat → Int32) → (Nat → Int32) → (Nat → Int32) → (Nat → Int32) → Int32 → Int32 → Prop) (t_items t_room t_breakPlace t_breakWeight t_breakProfit : Int32) (t_itemAt t_placeOf t_weights t_profits : Nat → Int32) (v2 v3 : Int32) : Prop :=
  (v3 ≤ (0 : Int32) → wX2_rank_68 p1_items p1_room p1_profits p1_weights K18 post t_items t_room t_breakPlace t_breakWeight t_breakProfit t_itemAt t_placeOf t_weights t_profits v2 v3) ∧ (¬ v3 ≤ (0 : Int32) → vp_in (v3 - (1 : Int32)) 60 ∧ wX1_isBetter p1_profits p1_weights (fun r42 => wX2_rank_45 p1_items p1_room p1_profits p1_weights K18 K28 post t_items t_room t_breakPlace t_breakWeight t_breakProfit t_itemAt t_placeOf t_weights t_profits v2 v3 r42) v2 (t_itemAt ((v3 - (1 : Int32))).toNatClampNeg))
def wX2_rank_28 (p1_items p1_room : Int32) (p1_profits p1_weights : Nat → Int32) (K18 : Int32 → Int32 → Int32 → Int32 → Int32 → (Nat → Int32) → (Nat → Int32) → (Nat → Int32) → (Nat → Int32) → Int32 → Prop) (post : Int32 → Int32 → Int32 → Int32 → Int32 → (Nat → Int32) → (Nat → Int32) → (Nat → Int32) → (Nat → Int32) → Prop) : Nat → Int32 → Int32 → Int32 → Int32 → Int32 → (Nat → Int32) → (Nat → Int32) → (Nat → Int32) → (Nat → Int32) → Int32 → Int32 → Prop
  | 0 => fun _ _ _ _ _ _ _ _ _ _ _ => False
  | n + 1 => wX2_rank_28_b p1_items p1_room p1_profits p1_weights K18 post (wX2_rank_28 p1_items p1_room p1_profits p1_weights K18 post n)
def wX2_rank_18_b (p1_items p1_room : Int32) (p1_profits p1_weights : Nat → Int32) (post : Int32 → Int32 → Int32 → Int32 → Int32 → (Nat → Int32) → (Nat → Int32) → (Nat → Int32) → (Nat → Int32) → Prop) (K18 : Int32 → Int32 → Int32 → Int32 → Int32 → (Nat → Int32) → (Nat → Int32) → (Nat → Int32) → (Nat → Int32) → Int32 → Prop) (t_items t_room t_breakPlace t_breakWeight t_breakProfit : Int32) (t_itemAt t_placeOf t_weights t_profits : Nat → Int32) (v2 : Int32) : Prop :=
  (t_items ≤ v2 → ∃ n : Nat, wX2_rank_83 p1_items p1_room p1_profits p1_weights post n t_items t_room t_breakPlace t_breakWeight t_breakProfit t_itemAt t_placeOf t_weights t_profits (0 : Int32)) ∧ (¬ t_items ≤ v2 → ∃ n : Nat, wX2_rank_28 p1_items p1_room p1_profits p1_weights K18 post n t_items t_room t_breakPlace t_breakWeight t_breakProfit t_itemAt t_placeOf t_weights t_profits v2 v2)
def wX2_rank_18 (p1_items p1_room : Int32) (p1_profits p1_weights : Nat → Int32) (post : Int32 → Int32 → Int32 → Int32 → Int32 → (Nat → Int32) → (Nat → Int32) → (Nat → Int32) → (Nat → Int32) → Prop) : Nat → Int32 → Int32 → Int32 → Int32 → Int32 → (Nat → Int32) → (Nat → Int32) → (Nat → Int32) → (Nat → Int32) → Int32 → Prop
  | 0 => fun _ _ _ _ _ _ _ _ _ _ => False
  | n + 1 => wX2_rank_18_b p1_items p1_room p1_profits p1_weights post (wX2_rank_18 p1_items p1_room p1_profits p1_weights post n)
/-- KnapsackCore$Ranked.rank(LKnapsackCore$Load;)V -/
def wX2_rank (p1_items p1_room : Int32) (p1_profits p1_weights : Nat → Int32) (post : Int32 → Int32 → Int32 → Int32 → Int32 → (Nat → Int32) → (Nat → Int32) → (Nat → Int32) → (Nat → Int32) → Prop) (t_items t_room t_breakPlace t_breakWeight t_breakProfit : Int32) (t_itemAt t_placeOf t_weights t_profits : Nat → Int32) : Prop :=
  ∃ n : Nat, wX2_rank_18 p1_items p1_room p1_profits p1_weights post n p1_items p1_room t_breakPlace t_breakWeight t_breakProfit t_itemAt t_placeOf t_weights t_profits (0 : Int32)
theorem kX2_rank_0 : Cond.fieldLink RX2 30 "KnapsackCore$Ranked" "items" "I" ∈ wsX2_rank := (List.mem_cons_of_mem _ (List.mem_append_left _ (List.mem_append_left _ (List.mem_append_left _ (List.mem_of_getElem? (i := 1) rfl)))))
theorem kX2_rank_1 : Cond.fieldLink RX2 15 "KnapsackCore$Ranked" "placeOf" "[I" ∈ wsX2_rank := (List.mem_cons_of_mem _ (List.mem_append_left _ (List.mem_append_left _ (List.mem_append_left _ (List.mem_of_getElem? (i := 5) rfl)))))
theorem kX2_rank_2 : Cond.fieldLink RX2 9 "KnapsackCore$Ranked" "itemAt" "[I" ∈ wsX2_rank := (List.mem_cons_of_mem _ (List.mem_append_left _ (List.mem_append_left _ (List.mem_append_left _ (List.mem_of_getElem? (i := 4) rfl)))))
theorem kX2_rank_3 : Cond.fieldLink RX2 18 "KnapsackCore$Ranked" "weights" "[I" ∈ wsX2_rank := (List.mem_cons_of_mem _ (List.mem_append_left _ (List.mem_append_left _ (List.mem_append_left _ (List.mem_of_getElem? (i := 6) rfl)))))
theorem kX2_rank_4 : Cond.fieldLink RX2 39 "KnapsackCore$Load" "weights" "[I" ∈ wsX2_rank := (List.mem_cons_of_mem _ (List.mem_append_left _ (List.mem_append_left _ (List.mem_append_left _ (List.mem_of_getElem? (i := 7) rfl)))))
theorem kX2_rank_5 : Cond.fieldLink RX2 21 "KnapsackCore$Ranked" "profits" "[I" ∈ wsX2_rank := (List.mem_cons_of_mem _ (List.mem_append_left _ (List.mem_append_left _ (List.mem_append_left _ (List.mem_of_getElem? (i := 8) rfl)))))
theorem kX2_rank_6 : Cond.fieldLink RX2 40 "KnapsackCore$Load" "profits" "[I" ∈ wsX2_rank := (List.mem_cons_of_mem _ (List.mem_append_left _ (List.mem_append_left _ (List.mem_append_left _ (List.mem_of_getElem? (i := 9) rfl)))))
theorem kX2_rank_7 : Cond.fieldLink RX2 24 "KnapsackCore$Load" "items" "I" ∈ wsX2_rank := (List.mem_cons_of_mem _ (List.mem_append_left _ (List.mem_append_left _ (List.mem_append_left _ (List.mem_of_getElem? (i := 0) rfl)))))
theorem kX2_rank_8 : Cond.fieldLink RX2 31 "KnapsackCore$Load" "room" "I" ∈ wsX2_rank := (List.mem_cons_of_mem _ (List.mem_append_left _ (List.mem_append_left _ (List.mem_append_left _ (List.mem_of_getElem? (i := 2) rfl)))))
theorem kX2_rank_9 : Cond.fieldLink RX2 34 "KnapsackCore$Ranked" "room" "I" ∈ wsX2_rank := (List.mem_cons_of_mem _ (List.mem_append_left _ (List.mem_append_left _ (List.mem_append_left _ (List.mem_of_getElem? (i := 3) rfl)))))
theorem iX2_rank_X2 : ∀ w ∈ u_ws RX2 TX2 9, w ∈ wsX2_rank := fun w h => (List.mem_cons_of_mem _ (List.mem_append_right _ h))
theorem iX2_rank_X1 : ∀ w ∈ u_ws RX1 TX1 6, w ∈ wsX2_rank := fun w h => (List.mem_cons_of_mem _ (List.mem_append_left _ (List.mem_append_right _ h)))
set_option maxHeartbeats 4000000 in
set_option maxRecDepth 100000 in
theorem mtX2_rank (l : Launch) (ad : (Nat → Nat) × (Nat → Nat)) (dC : Nat → ClassId) (dI : Nat → Nat → Nat) (cy : Nat → ClassId) (a_t a_t_itemAt a_t_placeOf a_t_weights a_t_profits a_p1 a_p1_weights a_p1_profits : Nat) (sz : Nat) (t_items t_room t_breakPlace t_breakWeight t_breakProfit p1_items p1_room p1_most p1_steps : Int32) (t_itemAt p1_profits p1_weights t_placeOf t_weights t_profits : Nat → Int32) {post : Int32 → Int32 → Int32 → Int32 → Int32 → (Nat → Int32) → (Nat → Int32) → (Nat → Int32) → (Nat → Int32) → Prop} (h : wX2_rank p1_items p1_room p1_profits p1_weights post t_items t_room t_breakPlace t_breakWeight t_breakProfit t_itemAt t_placeOf t_weights t_profits) : xMv l yX2_rank wsX2_rank ({ frames := 1, cells := 0, slots := 0, locals := 22 } : Room) ad (dC, dI) vwCl (xT cy) [.ref a_t, .ref a_p1] [(a_t, .inr (2, [.ref a_t_itemAt, .ref a_t_placeOf, .ref a_t_weights, .ref a_t_profits, .int t_items, .int t_room, .int t_breakPlace, .int t_breakWeight, .int t_breakProfit])), (a_p1, .inr (1, [.ref a_p1_weights, .ref a_p1_profits, .int p1_items, .int p1_room, .int p1_most, .int p1_steps])), (a_t_itemAt, .inl (cy 0, 60, .inl t_itemAt)), (a_p1_profits, .inl (cy 0, 60, .inl p1_profits)), (a_p1_weights, .inl (cy 0, 60, .inl p1_weights)), (a_t_placeOf, .inl (cy 0, 60, .inl t_placeOf)), (a_t_weights, .inl (cy 0, 60, .inl t_weights)), (a_t_profits, .inl (cy 0, 60, .inl t_profits))] sz (fun (u : Int32 × Int32 × Int32 × Int32 × Int32 × (Nat → Int32) × (Nat → Int32) × (Nat → Int32) × (Nat → Int32)) => post u.1 u.2.1 u.2.2.1 u.2.2.2.1 u.2.2.2.2.1 u.2.2.2.2.2.1 u.2.2.2.2.2.2.1 u.2.2.2.2.2.2.2.1 u.2.2.2.2.2.2.2.2) (fun (u : Int32 × Int32 × Int32 × Int32 × Int32 × (Nat → Int32) × (Nat → Int32) × (Nat → Int32) × (Nat → Int32)) w => w = [(a_t, .inr (2, [.ref a_t_itemAt, .ref a_t_placeOf, .ref a_t_weights, .ref a_t_profits, .int u.1, .int u.2.1, .int u.2.2.1, .int u.2.2.2.1, .int u.2.2.2.2.1])), (a_p1, .inr (1, [.ref a_p1_weights, .ref a_p1_profits, .int p1_items, .int p1_room, .int p1_most, .int p1_steps])), (a_t_itemAt, .inl (cy 0, 60, .inl u.2.2.2.2.2.1)), (a_p1_profits, .inl (cy 0, 60, .inl p1_profits)), (a_p1_weights, .inl (cy 0, 60, .inl p1_weights)), (a_t_placeOf, .inl (cy 0, 60, .inl u.2.2.2.2.2.2.1)), (a_t_weights, .inl (cy 0, 60, .inl u.2.2.2.2.2.2.2.1)), (a_t_profits, .inl (cy 0, 60, .inl u.2.2.2.2.2.2.2.2))]) 0 0 := by
  unfold xMv
  refine Met.ofW (cc := cX2_rank) (maxL := 4) (ret := none) (by decide +kernel) rfl ?_
  intro p e s m args below meth c s₁ B hml hv
  obtain ⟨rfl, hsz, hP, hK, hD0, hE⟩ := hv
  have hx := B.exec
  have hb := B.bytes
  have hr := B.returns
  have hts := atoms_spec (ws := wsX2_rank) B.pre
  have hown : s.vm.findClass RX2 = some m.cls := findClass_of_methodNamed B.named
  have hlocks := B.notSynchronized
  subst hsz
  have hD := hD0.self (sz := s.heap.size)
  generalize hAe : va_A [(a_t, .inr (2, [.ref a_t_itemAt, .ref a_t_placeOf, .ref a_t_weights, .ref a_t_profits, .int t_items, .int t_room, .int t_breakPlace, .int t_breakWeight, .int t_breakProfit])), (a_p1, .inr (1, [.ref a_p1_weights, .ref a_p1_profits, .int p1_items, .int p1_room, .int p1_most, .int p1_steps])), (a_t_itemAt, .inl (cy 0, 60, .inl t_itemAt)), (a_p1_profits, .inl (cy 0, 60, .inl p1_profits)), (a_p1_weights, .inl (cy 0, 60, .inl p1_weights)), (a_t_placeOf, .inl (cy 0, 60, .inl t_placeOf)), (a_t_weights, .inl (cy 0, 60, .inl t_weights)), (a_t_profits, .inl (cy 0, 60, .inl t_profits))] s.heap.size = A at hD hE ⊢
  have hA : ∀ q : Nat, s.heap.size ≤ q → A q := fun q h => by rw [← hAe]; exact Or.inr h
  have hS : va_S A s.heap s.heap [] := va_S.rf
  have hl := lv_entry ([.ref a_t, .ref a_p1]) (n := 4) (Nat.le_of_ble_eq_true rfl)
  rw [lg_entry_eq]
  generalize (lg_sl ([.ref a_t, .ref a_p1]) ++ List.replicate (4 - (lg_sl ([.ref a_t, .ref a_p1])).length) Slot.unset).toArray = ls at hl ⊢
  have hl : lv_has ls 4 [(0, .ref a_t), (1, .ref a_p1)] := hl
  generalize hQ : MQ below _ _ s _ _ _ = Q
  generalize ([.ref a_t, .ref a_p1] : List Value).toArray = args at hts hQ ⊢
  clear B hD0 hAe
  have L83 : ∀ n : Nat, ∀ (t_items t_room t_breakPlace t_breakWeight t_breakProfit : Int32) (t_itemAt t_placeOf t_weights t_profits : Nat → Int32) (v2 : Int32), wX2_rank_83 p1_items p1_room p1_profits p1_weights post n t_items t_room t_breakPlace t_breakWeight t_breakProfit t_itemAt t_placeOf t_weights t_profits v2 → ∀ (H : Heap) (locs : List Loc) (ls : Array Slot), va_P (dC, dI) vwCl [(a_t, .inr (2, [.ref a_t_itemAt, .ref a_t_placeOf, .ref a_t_weights, .ref a_t_profits, .int t_items, .int t_room, .int t_breakPlace, .int t_breakWeight, .int t_breakProfit])), (a_p1, .inr (1, [.ref a_p1_weights, .ref a_p1_profits, .int p1_items, .int p1_room, .int p1_most, .int p1_steps])), (a_t_itemAt, .inl (cy 0, 60, .inl t_itemAt)), (a_p1_profits, .inl (cy 0, 60, .inl p1_profits)), (a_p1_weights, .inl (cy 0, 60, .inl p1_weights)), (a_t_placeOf, .inl (cy 0, 60, .inl t_placeOf)), (a_t_weights, .inl (cy 0, 60, .inl t_weights)), (a_t_profits, .inl (cy 0, 60, .inl t_profits))] H → va_D A [(a_t, .inr (2, [.ref a_t_itemAt, .ref a_t_placeOf, .ref a_t_weights, .ref a_t_profits, .int t_items, .int t_room, .int t_breakPlace, .int t_breakWeight, .int t_breakProfit])), (a_p1, .inr (1, [.ref a_p1_weights, .ref a_p1_profits, .int p1_items, .int p1_room, .int p1_most, .int p1_steps])), (a_t_itemAt, .inl (cy 0, 60, .inl t_itemAt)), (a_p1_profits, .inl (cy 0, 60, .inl p1_profits)), (a_p1_weights, .inl (cy 0, 60, .inl p1_weights)), (a_t_placeOf, .inl (cy 0, 60, .inl t_placeOf)), (a_t_weights, .inl (cy 0, 60, .inl t_weights)), (a_t_profits, .inl (cy 0, 60, .inl t_profits))] → va_S A s.heap H locs → lv_has ls 4 [(0, .ref a_t), (1, .ref a_p1), (2, .int v2)] → W p l e (headSpec wsX2_rank ({ frames := 1, cells := 0, slots := 0, locals := 22 } : Room)).room s m args below meth c H locs 0 0 Q (F0 m 83 ls []) := by
    intro n
    induction n with
    | zero => intro t_items t_room t_breakPlace t_breakWeight t_breakProfit t_itemAt t_placeOf t_weights t_profits v2 h; exact False.elim h
    | succ n83 ih83 =>
      intro t_items t_room t_breakPlace t_breakWeight t_breakProfit t_itemAt t_placeOf t_weights t_profits v2 h H locs ls hP hD hS hl
      replace h : wX2_rank_83_b p1_items p1_room p1_profits p1_weights post (wX2_rank_83 p1_items p1_room p1_profits p1_weights post n83) t_items t_room t_breakPlace t_breakWeight t_breakProfit t_itemAt t_placeOf t_weights t_profits v2 := h
      refine lv_iload_n hx hb dX2_rank_83 rfl (lv_at hl 2 rfl) ?_
      refine lv_aload_n hx hb dX2_rank_84 rfl (lv_at hl 0 rfl) ?_
      refine va_get (D := (dC, dI)) (ci := 2) (v := .int t_items) (C := RX2) (T := TX2) (N := 9) hx hb hts iX2_rank_X2 hown hK hP 0 rfl rfl 4 (Nat.le_of_ble_eq_true rfl) (hts _ kX2_rank_0) (fun _ h9 => h9) rfl dX2_rank_85 ?_
      refine lv_icmp_ge (tgt := 143) hx hb dX2_rank_88 (by decide) (fun c_1 => ?_) (fun c_1 => ?_)
      · replace h := h.1 c_1
        refine lv_aload_n hx hb dX2_rank_143 rfl (lv_at hl 0 rfl) ?_
        refine xVv (wr := [(a_p1, .inr (1, [.ref a_p1_weights, .ref a_p1_profits, .int p1_items, .int p1_room, .int p1_most, .int p1_steps])), (a_t_itemAt, .inl (cy 0, 60, .inl t_itemAt)), (a_p1_profits, .inl (cy 0, 60, .inl p1_profits)), (a_p1_weights, .inl (cy 0, 60, .inl p1_weights)), (a_t_placeOf, .inl (cy 0, 60, .inl t_placeOf))]) (As := []) (rest := []) ⟨hx, hb, hml, hown, hts⟩ (mtX2_findBreak l ad dC dI cy a_t a_t_itemAt a_t_placeOf a_t_weights a_t_profits _ t_items t_room t_breakPlace t_breakWeight t_breakProfit t_weights t_profits  h) (cwV 0 hts gX2_rank_X2_findBreak rfl rfl rfl qX2_findBreak ⟨Nat.le_of_ble_eq_true rfl, Nat.le_of_ble_eq_true rfl⟩) hE hK hP hD hS hA 2 0 rfl rfl rfl [0, 6, 7] [1, 2, 3, 4, 5] rfl rfl (by decide) (by decide) (by decide) rfl hl.1 rfl (Nat.le_of_ble_eq_true rfl) dX2_rank_144 ⟨Nat.le_refl _, Nat.le_refl _⟩ (fun u w1 H locs h hF hP hD hS => ?_)
        obtain ⟨m144_0, m144_1, m144_2⟩ := u
        try dsimp only at h
        replace hF : w1 = [(a_t, .inr (2, [.ref a_t_itemAt, .ref a_t_placeOf, .ref a_t_weights, .ref a_t_profits, .int t_items, .int t_room, .int m144_0, .int m144_1, .int m144_2])), (a_t_weights, .inl (cy 0, 60, .inl t_weights)), (a_t_profits, .inl (cy 0, 60, .inl t_profits))] := hF
        subst hF
        have hP : va_P (dC, dI) vwCl [(a_p1, .inr (1, [.ref a_p1_weights, .ref a_p1_profits, .int p1_items, .int p1_room, .int p1_most, .int p1_steps])), (a_t_itemAt, .inl (cy 0, 60, .inl t_itemAt)), (a_p1_profits, .inl (cy 0, 60, .inl p1_profits)), (a_p1_weights, .inl (cy 0, 60, .inl p1_weights)), (a_t_placeOf, .inl (cy 0, 60, .inl t_placeOf)), (a_t, .inr (2, [.ref a_t_itemAt, .ref a_t_placeOf, .ref a_t_weights, .ref a_t_profits, .int t_items, .int t_room, .int m144_0, .int m144_1, .int m144_2])), (a_t_weights, .inl (cy 0, 60, .inl t_weights)), (a_t_profits, .inl (cy 0, 60, .inl t_profits))] H := hP
        have hD : va_D A [(a_p1, .inr (1, [.ref a_p1_weights, .ref a_p1_profits, .int p1_items, .int p1_room, .int p1_most, .int p1_steps])), (a_t_itemAt, .inl (cy 0, 60, .inl t_itemAt)), (a_p1_profits, .inl (cy 0, 60, .inl p1_profits)), (a_p1_weights, .inl (cy 0, 60, .inl p1_weights)), (a_t_placeOf, .inl (cy 0, 60, .inl t_placeOf)), (a_t, .inr (2, [.ref a_t_itemAt, .ref a_t_placeOf, .ref a_t_weights, .ref a_t_profits, .int t_items, .int t_room, .int m144_0, .int m144_1, .int m144_2])), (a_t_weights, .inl (cy 0, 60, .inl t_weights)), (a_t_profits, .inl (cy 0, 60, .inl t_profits))] := hD
        rw [← hQ]
        exact W.vret hx hb hr (fun t ht hW => ⟨⟨(t_items, t_room, m144_0, m144_1, m144_2, t_itemAt, t_placeOf, t_weights, t_profits), rfl, (by dsimp only; exact h), x_end (w1 := [(a_t, .inr (2, [.ref a_t_itemAt, .ref a_t_placeOf, .ref a_t_weights, .ref a_t_profits, .int t_items, .int t_room, .int m144_0, .int m144_1, .int m144_2])), (a_p1, .inr (1, [.ref a_p1_weights, .ref a_p1_profits, .int p1_items, .int p1_room, .int p1_most, .int p1_steps])), (a_t_itemAt, .inl (cy 0, 60, .inl t_itemAt)), (a_p1_profits, .inl (cy 0, 60, .inl p1_profits)), (a_p1_weights, .inl (cy 0, 60, .inl p1_weights)), (a_t_placeOf, .inl (cy 0, 60, .inl t_placeOf)), (a_t_weights, .inl (cy 0, 60, .inl t_weights)), (a_t_profits, .inl (cy 0, 60, .inl t_profits))]) hP hD hK [5, 0, 1, 2, 3, 4, 6, 7] rfl (by decide) (by first | exact rfl | (dsimp only; exact rfl)) ht hW⟩, hS.F ht⟩) hS.2.2 dX2_rank_147
      · replace h := h.2 c_1
        refine lv_aload_n hx hb dX2_rank_91 rfl (lv_at hl 0 rfl) ?_
        refine va_get (D := (dC, dI)) (ci := 2) (v := .ref a_t_placeOf) (C := RX2) (T := TX2) (N := 9) hx hb hts iX2_rank_X2 hown hK hP 0 rfl rfl 1 (Nat.le_of_ble_eq_true rfl) (hts _ kX2_rank_1) (fun _ h9 => h9) rfl dX2_rank_92 ?_
        refine lv_aload_n hx hb dX2_rank_95 rfl (lv_at hl 0 rfl) ?_
        refine va_get (D := (dC, dI)) (ci := 2) (v := .ref a_t_itemAt) (C := RX2) (T := TX2) (N := 9) hx hb hts iX2_rank_X2 hown hK hP 0 rfl rfl 0 (Nat.le_of_ble_eq_true rfl) (hts _ kX2_rank_2) (fun _ h9 => h9) rfl dX2_rank_96 ?_
        refine lv_iload_n hx hb dX2_rank_99 rfl (lv_at hl 2 rfl) ?_
        refine va_iald (D := (dC, dI)) hx hb hK hP 2 0 rfl rfl h.1 dX2_rank_100 ?_
        replace h := h.2
        refine lv_iload_n hx hb dX2_rank_101 rfl (lv_at hl 2 rfl) ?_
        refine va_iast (D := (dC, dI)) hx hb hK hP hD hS 5 0 rfl rfl h.1 dX2_rank_102 (fun H locs hP hD hS => ?_)
        replace h := h.2
        have hP : va_P (dC, dI) vwCl [(a_t, .inr (2, [.ref a_t_itemAt, .ref a_t_placeOf, .ref a_t_weights, .ref a_t_profits, .int t_items, .int t_room, .int t_breakPlace, .int t_breakWeight, .int t_breakProfit])), (a_p1, .inr (1, [.ref a_p1_weights, .ref a_p1_profits, .int p1_items, .int p1_room, .int p1_most, .int p1_steps])), (a_t_itemAt, .inl (cy 0, 60, .inl t_itemAt)), (a_p1_profits, .inl (cy 0, 60, .inl p1_profits)), (a_p1_weights, .inl (cy 0, 60, .inl p1_weights)), (a_t_placeOf, .inl (cy 0, 60, .inl (upd t_placeOf ((t_itemAt (v2).toNatClampNeg)).toNatClampNeg v2))), (a_t_weights, .inl (cy 0, 60, .inl t_weights)), (a_t_profits, .inl (cy 0, 60, .inl t_profits))] H := hP
        have hD : va_D A [(a_t, .inr (2, [.ref a_t_itemAt, .ref a_t_placeOf, .ref a_t_weights, .ref a_t_profits, .int t_items, .int t_room, .int t_breakPlace, .int t_breakWeight, .int t_breakProfit])), (a_p1, .inr (1, [.ref a_p1_weights, .ref a_p1_profits, .int p1_items, .int p1_room, .int p1_most, .int p1_steps])), (a_t_itemAt, .inl (cy 0, 60, .inl t_itemAt)), (a_p1_profits, .inl (cy 0, 60, .inl p1_profits)), (a_p1_weights, .inl (cy 0, 60, .inl p1_weights)), (a_t_placeOf, .inl (cy 0, 60, .inl (upd t_placeOf ((t_itemAt (v2).toNatClampNeg)).toNatClampNeg v2))), (a_t_weights, .inl (cy 0, 60, .inl t_weights)), (a_t_profits, .inl (cy 0, 60, .inl t_profits))] := hD
        refine lv_aload_n hx hb dX2_rank_103 rfl (lv_at hl 0 rfl) ?_
        refine va_get (D := (dC, dI)) (ci := 2) (v := .ref a_t_weights) (C := RX2) (T := TX2) (N := 9) hx hb hts iX2_rank_X2 hown hK hP 0 rfl rfl 2 (Nat.le_of_ble_eq_true rfl) (hts _ kX2_rank_3) (fun _ h9 => h9) rfl dX2_rank_104 ?_
        refine lv_iload_n hx hb dX2_rank_107 rfl (lv_at hl 2 rfl) ?_
        refine lv_aload_n hx hb dX2_rank_108 rfl (lv_at hl 1 rfl) ?_
        refine va_get (D := (dC, dI)) (ci := 1) (v := .ref a_p1_weights) (C := RX1) (T := TX1) (N := 6) hx hb hts iX2_rank_X1 hown hK hP 1 rfl rfl 0 (Nat.le_of_ble_eq_true rfl) (hts _ kX2_rank_4) (fun _ h9 => h9) rfl dX2_rank_109 ?_
        refine lv_aload_n hx hb dX2_rank_112 rfl (lv_at hl 0 rfl) ?_
        refine va_get (D := (dC, dI)) (ci := 2) (v := .ref a_t_itemAt) (C := RX2) (T := TX2) (N := 9) hx hb hts iX2_rank_X2 hown hK hP 0 rfl rfl 0 (Nat.le_of_ble_eq_true rfl) (hts _ kX2_rank_2) (fun _ h9 => h9) rfl dX2_rank_113 ?_
        refine lv_iload_n hx hb dX2_rank_116 rfl (lv_at hl 2 rfl) ?_
        refine va_iald (D := (dC, dI)) hx hb hK hP 2 0 rfl rfl h.1 dX2_rank_117 ?_
        replace h := h.2
        refine va_iald (D := (dC, dI)) hx hb hK hP 4 0 rfl rfl h.1 dX2_rank_118 ?_
        replace h := h.2
        refine va_iast (D := (dC, dI)) hx hb hK hP hD hS 6 0 rfl rfl h.1 dX2_rank_119 (fun H locs hP hD hS => ?_)
        replace h := h.2
        have hP : va_P (dC, dI) vwCl [(a_t, .inr (2, [.ref a_t_itemAt, .ref a_t_placeOf, .ref a_t_weights, .ref a_t_profits, .int t_items, .int t_room, .int t_breakPlace, .int t_breakWeight, .int t_breakProfit])), (a_p1, .inr (1, [.ref a_p1_weights, .ref a_p1_profits, .int p1_items, .int p1_room, .int p1_most, .int p1_steps])), (a_t_itemAt, .inl (cy 0, 60, .inl t_itemAt)), (a_p1_profits, .inl (cy 0, 60, .inl p1_profits)), (a_p1_weights, .inl (cy 0, 60, .inl p1_weights)), (a_t_placeOf, .inl (cy 0, 60, .inl (upd t_placeOf ((t_itemAt (v2).toNatClampNeg)).toNatClampNeg v2))), (a_t_weights, .inl (cy 0, 60, .inl (upd t_weights (v2).toNatClampNeg (p1_weights ((t_itemAt (v2).toNatClampNeg)).toNatClampNeg)))), (a_t_profits, .inl (cy 0, 60, .inl t_profits))] H := hP
        have hD : va_D A [(a_t, .inr (2, [.ref a_t_itemAt, .ref a_t_placeOf, .ref a_t_weights, .ref a_t_profits, .int t_items, .int t_room, .int t_breakPlace, .int t_breakWeight, .int t_breakProfit])), (a_p1, .inr (1, [.ref a_p1_weights, .ref a_p1_profits, .int p1_items, .int p1_room, .int p1_most, .int p1_steps])), (a_t_itemAt, .inl (cy 0, 60, .inl t_itemAt)), (a_p1_profits, .inl (cy 0, 60, .inl p1_profits)), (a_p1_weights, .inl (cy 0, 60, .inl p1_weights)), (a_t_placeOf, .inl (cy 0, 60, .inl (upd t_placeOf ((t_itemAt (v2).toNatClampNeg)).toNatClampNeg v2))), (a_t_weights, .inl (cy 0, 60, .inl (upd t_weights (v2).toNatClampNeg (p1_weights ((t_itemAt (v2).toNatClampNeg)).toNatClampNeg)))), (a_t_profits, .inl (cy 0, 60, .inl t_profits))] := hD
        refine lv_aload_n hx hb dX2_rank_120 rfl (lv_at hl 0 rfl) ?_
        refine va_get (D := (dC, dI)) (ci := 2) (v := .ref a_t_profits) (C := RX2) (T := TX2) (N := 9) hx hb hts iX2_rank_X2 hown hK hP 0 rfl rfl 3 (Nat.le_of_ble_eq_true rfl) (hts _ kX2_rank_5) (fun _ h9 => h9) rfl dX2_rank_121 ?_
        refine lv_iload_n hx hb dX2_rank_124 rfl (lv_at hl 2 rfl) ?_
        refine lv_aload_n hx hb dX2_rank_125 rfl (lv_at hl 1 rfl) ?_
        refine va_get (D := (dC, dI)) (ci := 1) (v := .ref a_p1_profits) (C := RX1) (T := TX1) (N := 6) hx hb hts iX2_rank_X1 hown hK hP 1 rfl rfl 1 (Nat.le_of_ble_eq_true rfl) (hts _ kX2_rank_6) (fun _ h9 => h9) rfl dX2_rank_126 ?_
        refine lv_aload_n hx hb dX2_rank_129 rfl (lv_at hl 0 rfl) ?_
        refine va_get (D := (dC, dI)) (ci := 2) (v := .ref a_t_itemAt) (C := RX2) (T := TX2) (N := 9) hx hb hts iX2_rank_X2 hown hK hP 0 rfl rfl 0 (Nat.le_of_ble_eq_true rfl) (hts _ kX2_rank_2) (fun _ h9 => h9) rfl dX2_rank_130 ?_
        refine lv_iload_n hx hb dX2_rank_133 rfl (lv_at hl 2 rfl) ?_
        refine va_iald (D := (dC, dI)) hx hb hK hP 2 0 rfl rfl h.1 dX2_rank_134 ?_
        replace h := h.2
        refine va_iald (D := (dC, dI)) hx hb hK hP 3 0 rfl rfl h.1 dX2_rank_135 ?_
        replace h := h.2
        refine va_iast (D := (dC, dI)) hx hb hK hP hD hS 7 0 rfl rfl h.1 dX2_rank_136 (fun H locs hP hD hS => ?_)
        replace h := h.2
        have hP : va_P (dC, dI) vwCl [(a_t, .inr (2, [.ref a_t_itemAt, .ref a_t_placeOf, .ref a_t_weights, .ref a_t_profits, .int t_items, .int t_room, .int t_breakPlace, .int t_breakWeight, .int t_breakProfit])), (a_p1, .inr (1, [.ref a_p1_weights, .ref a_p1_profits, .int p1_items, .int p1_room, .int p1_most, .int p1_steps])), (a_t_itemAt, .inl (cy 0, 60, .inl t_itemAt)), (a_p1_profits, .inl (cy 0, 60, .inl p1_profits)), (a_p1_weights, .inl (cy 0, 60, .inl p1_weights)), (a_t_placeOf, .inl (cy 0, 60, .inl (upd t_placeOf ((t_itemAt (v2).toNatClampNeg)).toNatClampNeg v2))), (a_t_weights, .inl (cy 0, 60, .inl (upd t_weights (v2).toNatClampNeg (p1_weights ((t_itemAt (v2).toNatClampNeg)).toNatClampNeg)))), (a_t_profits, .inl (cy 0, 60, .inl (upd t_profits (v2).toNatClampNeg (p1_profits ((t_itemAt (v2).toNatClampNeg)).toNatClampNeg))))] H := hP
        have hD : va_D A [(a_t, .inr (2, [.ref a_t_itemAt, .ref a_t_placeOf, .ref a_t_weights, .ref a_t_profits, .int t_items, .int t_room, .int t_breakPlace, .int t_breakWeight, .int t_breakProfit])), (a_p1, .inr (1, [.ref a_p1_weights, .ref a_p1_profits, .int p1_items, .int p1_room, .int p1_most, .int p1_steps])), (a_t_itemAt, .inl (cy 0, 60, .inl t_itemAt)), (a_p1_profits, .inl (cy 0, 60, .inl p1_profits)), (a_p1_weights, .inl (cy 0, 60, .inl p1_weights)), (a_t_placeOf, .inl (cy 0, 60, .inl (upd t_placeOf ((t_itemAt (v2).toNatClampNeg)).toNatClampNeg v2))), (a_t_weights, .inl (cy 0, 60, .inl (upd t_weights (v2).toNatClampNeg (p1_weights ((t_itemAt (v2).toNatClampNeg)).toNatClampNeg)))), (a_t_profits, .inl (cy 0, 60, .inl (upd t_profits (v2).toNatClampNeg (p1_profits ((t_itemAt (v2).toNatClampNeg)).toNatClampNeg))))] := hD
        refine lv_iinc (v := (v2 + (1 : Int32))) (lv' := [(2, .int (v2 + (1 : Int32))), (0, .ref a_t), (1, .ref a_p1)]) hx hb dX2_rank_137 hl (k := 2) rfl rfl (by decide) rfl (fun ls hl => ?_)
        refine lv_goto (tgt := 83) hx hb dX2_rank_140 (by decide) ?_
        exact ih83 t_items t_room t_breakPlace t_breakWeight t_breakProfit t_itemAt (upd t_placeOf ((t_itemAt (v2).toNatClampNeg)).toNatClampNeg v2) (upd t_weights (v2).toNatClampNeg (p1_weights ((t_itemAt (v2).toNatClampNeg)).toNatClampNeg)) (upd t_profits (v2).toNatClampNeg (p1_profits ((t_itemAt (v2).toNatClampNeg)).toNatClampNeg)) (v2 + (1 : Int32)) h _ _ _ (x_sub hP [0, 1, 2, 3, 4, 5, 6, 7] rfl) (hD.sub [0, 1, 2, 3, 4, 5, 6, 7] (by decide) rfl) hS (lv_sub hl [1, 2, 0] rfl)
  have L18 : ∀ n : Nat, ∀ (t_items t_room t_breakPlace t_breakWeight t_breakProfit : Int32) (t_itemAt t_placeOf t_weights t_profits : Nat → Int32) (v2 : Int32), wX2_rank_18 p1_items p1_room p1_profits p1_weights post n t_items t_room t_breakPlace t_breakWeight t_breakProfit t_itemAt t_placeOf t_weights t_profits v2 → ∀ (H : Heap) (locs : List Loc) (ls : Array Slot), va_P (dC, dI) vwCl [(a_t, .inr (2, [.ref a_t_itemAt, .ref a_t_placeOf, .ref a_t_weights, .ref a_t_profits, .int t_items, .int t_room, .int t_breakPlace, .int t_breakWeight, .int t_breakProfit])), (a_p1, .inr (1, [.ref a_p1_weights, .ref a_p1_profits, .int p1_items, .int p1_room, .int p1_most, .int p1_steps])), (a_t_itemAt, .inl (cy 0, 60, .inl t_itemAt)), (a_p1_profits, .inl (cy 0, 60, .inl p1_profits)), (a_p1_weights, .inl (cy 0, 60, .inl p1_weights)), (a_t_placeOf, .inl (cy 0, 60, .inl t_placeOf)), (a_t_weights, .inl (cy 0, 60, .inl t_weights)), (a_t_profits, .inl (cy 0, 60, .inl t_profits))] H → va_D A [(a_t, .inr (2, [.ref a_t_itemAt, .ref a_t_placeOf, .ref a_t_weights, .ref a_t_profits, .int t_items, .int t_room, .int t_breakPlace, .int t_breakWeight, .int t_breakProfit])), (a_p1, .inr (1, [.ref a_p1_weights, .ref a_p1_profits, .int p1_items, .int p1_room, .int p1_most, .int p1_steps])), (a_t_itemAt, .inl (cy 0, 60, .inl t_itemAt)), (a_p1_profits, .inl (cy 0, 60, .inl p1_profits)), (a_p1_weights, .inl (cy 0, 60, .inl p1_weights)), (a_t_placeOf, .inl (cy 0, 60, .inl t_placeOf)), (a_t_weights, .inl (cy 0, 60, .inl t_weights)), (a_t_profits, .inl (cy 0, 60, .inl t_profits))] → va_S A s.heap H locs → lv_has ls 4 [(0, .ref a_t), (1, .ref a_p1), (2, .int v2)] → W p l e (headSpec wsX2_rank ({ frames := 1, cells := 0, slots := 0, locals := 22 } : Room)).room s m args below meth c H locs 0 0 Q (F0 m 18 ls []) := by
    intro n
    induction n with
    | zero => intro t_items t_room t_breakPlace t_breakWeight t_breakProfit t_itemAt t_placeOf t_weights t_profits v2 h; exact False.elim h
    | succ n18 ih18 =>
      have C68 : ∀ (t_items t_room t_breakPlace t_breakWeight t_breakProfit : Int32) (t_itemAt t_placeOf t_weights t_profits : Nat → Int32) (v2 v3 : Int32), wX2_rank_68 p1_items p1_room p1_profits p1_weights (wX2_rank_18 p1_items p1_room p1_profits p1_weights post n18) post t_items t_room t_breakPlace t_breakWeight t_breakProfit t_itemAt t_placeOf t_weights t_profits v2 v3 → ∀ (H : Heap) (locs : List Loc) (ls : Array Slot), va_P (dC, dI) vwCl [(a_t, .inr (2, [.ref a_t_itemAt, .ref a_t_placeOf, .ref a_t_weights, .ref a_t_profits, .int t_items, .int t_room, .int t_breakPlace, .int t_breakWeight, .int t_breakProfit])), (a_p1, .inr (1, [.ref a_p1_weights, .ref a_p1_profits, .int p1_items, .int p1_room, .int p1_most, .int p1_steps])), (a_t_itemAt, .inl (cy 0, 60, .inl t_itemAt)), (a_p1_profits, .inl (cy 0, 60, .inl p1_profits)), (a_p1_weights, .inl (cy 0, 60, .inl p1_weights)), (a_t_placeOf, .inl (cy 0, 60, .inl t_placeOf)), (a_t_weights, .inl (cy 0, 60, .inl t_weights)), (a_t_profits, .inl (cy 0, 60, .inl t_profits))] H → va_D A [(a_t, .inr (2, [.ref a_t_itemAt, .ref a_t_placeOf, .ref a_t_weights, .ref a_t_profits, .int t_items, .int t_room, .int t_breakPlace, .int t_breakWeight, .int t_breakProfit])), (a_p1, .inr (1, [.ref a_p1_weights, .ref a_p1_profits, .int p1_items, .int p1_room, .int p1_most, .int p1_steps])), (a_t_itemAt, .inl (cy 0, 60, .inl t_itemAt)), (a_p1_profits, .inl (cy 0, 60, .inl p1_profits)), (a_p1_weights, .inl (cy 0, 60, .inl p1_weights)), (a_t_placeOf, .inl (cy 0, 60, .inl t_placeOf)), (a_t_weights, .inl (cy 0, 60, .inl t_weights)), (a_t_profits, .inl (cy 0, 60, .inl t_profits))] → va_S A s.heap H locs → lv_has ls 4 [(0, .ref a_t), (1, .ref a_p1), (2, .int v2), (3, .int v3)] → W p l e (headSpec wsX2_rank ({ frames := 1, cells := 0, slots := 0, locals := 22 } : Room)).room s m args below meth c H locs 0 0 Q (F0 m 68 ls []) := by
        intro t_items t_room t_breakPlace t_breakWeight t_breakProfit t_itemAt t_placeOf t_weights t_profits v2 v3 h H locs ls hP hD hS hl
        refine lv_aload_n hx hb dX2_rank_68 rfl (lv_at hl 0 rfl) ?_
        refine va_get (D := (dC, dI)) (ci := 2) (v := .ref a_t_itemAt) (C := RX2) (T := TX2) (N := 9) hx hb hts iX2_rank_X2 hown hK hP 0 rfl rfl 0 (Nat.le_of_ble_eq_true rfl) (hts _ kX2_rank_2) (fun _ h9 => h9) rfl dX2_rank_69 ?_
        refine lv_iload_n hx hb dX2_rank_72 rfl (lv_at hl 3 rfl) ?_
        refine lv_iload_n hx hb dX2_rank_73 rfl (lv_at hl 2 rfl) ?_
        refine va_iast (D := (dC, dI)) hx hb hK hP hD hS 2 0 rfl rfl h.1 dX2_rank_74 (fun H locs hP hD hS => ?_)
        replace h := h.2
        have hP : va_P (dC, dI) vwCl [(a_t, .inr (2, [.ref a_t_itemAt, .ref a_t_placeOf, .ref a_t_weights, .ref a_t_profits, .int t_items, .int t_room, .int t_breakPlace, .int t_breakWeight, .int t_breakProfit])), (a_p1, .inr (1, [.ref a_p1_weights, .ref a_p1_profits, .int p1_items, .int p1_room, .int p1_most, .int p1_steps])), (a_t_itemAt, .inl (cy 0, 60, .inl (upd t_itemAt (v3).toNatClampNeg v2))), (a_p1_profits, .inl (cy 0, 60, .inl p1_profits)), (a_p1_weights, .inl (cy 0, 60, .inl p1_weights)), (a_t_placeOf, .inl (cy 0, 60, .inl t_placeOf)), (a_t_weights, .inl (cy 0, 60, .inl t_weights)), (a_t_profits, .inl (cy 0, 60, .inl t_profits))] H := hP
        have hD : va_D A [(a_t, .inr (2, [.ref a_t_itemAt, .ref a_t_placeOf, .ref a_t_weights, .ref a_t_profits, .int t_items, .int t_room, .int t_breakPlace, .int t_breakWeight, .int t_breakProfit])), (a_p1, .inr (1, [.ref a_p1_weights, .ref a_p1_profits, .int p1_items, .int p1_room, .int p1_most, .int p1_steps])), (a_t_itemAt, .inl (cy 0, 60, .inl (upd t_itemAt (v3).toNatClampNeg v2))), (a_p1_profits, .inl (cy 0, 60, .inl p1_profits)), (a_p1_weights, .inl (cy 0, 60, .inl p1_weights)), (a_t_placeOf, .inl (cy 0, 60, .inl t_placeOf)), (a_t_weights, .inl (cy 0, 60, .inl t_weights)), (a_t_profits, .inl (cy 0, 60, .inl t_profits))] := hD
        refine lv_iinc (v := (v2 + (1 : Int32))) (lv' := [(2, .int (v2 + (1 : Int32))), (0, .ref a_t), (1, .ref a_p1), (3, .int v3)]) hx hb dX2_rank_75 hl (k := 2) rfl rfl (by decide) rfl (fun ls hl => ?_)
        refine lv_goto (tgt := 18) hx hb dX2_rank_78 (by decide) ?_
        exact ih18 t_items t_room t_breakPlace t_breakWeight t_breakProfit (upd t_itemAt (v3).toNatClampNeg v2) t_placeOf t_weights t_profits (v2 + (1 : Int32)) h _ _ _ (x_sub hP [0, 1, 2, 3, 4, 5, 6, 7] rfl) (hD.sub [0, 1, 2, 3, 4, 5, 6, 7] (by decide) rfl) hS (lv_sub hl [1, 2, 0] rfl)
      have L28 : ∀ n : Nat, ∀ (t_items t_room t_breakPlace t_breakWeight t_breakProfit : Int32) (t_itemAt t_placeOf t_weights t_profits : Nat → Int32) (v2 v3 : Int32), wX2_rank_28 p1_items p1_room p1_profits p1_weights (wX2_rank_18 p1_items p1_room p1_profits p1_weights post n18) post n t_items t_room t_breakPlace t_breakWeight t_breakProfit t_itemAt t_placeOf t_weights t_profits v2 v3 → ∀ (H : Heap) (locs : List Loc) (ls : Array Slot), va_P (dC, dI) vwCl [(a_t, .inr (2, [.ref a_t_itemAt, .ref a_t_placeOf, .ref a_t_weights, .ref a_t_profits, .int t_items, .int t_room, .int t_breakPlace, .int t_breakWeight, .int t_breakProfit])), (a_p1, .inr (1, [.ref a_p1_weights, .ref a_p1_profits, .int p1_items, .int p1_room, .int p1_most, .int p1_steps])), (a_t_itemAt, .inl (cy 0, 60, .inl t_itemAt)), (a_p1_profits, .inl (cy 0, 60, .inl p1_profits)), (a_p1_weights, .inl (cy 0, 60, .inl p1_weights)), (a_t_placeOf, .inl (cy 0, 60, .inl t_placeOf)), (a_t_weights, .inl (cy 0, 60, .inl t_weights)), (a_t_profits, .inl (cy 0, 60, .inl t_profits))] H → va_D A [(a_t, .inr (2, [.ref a_t_itemAt, .ref a_t_placeOf, .ref a_t_weights, .ref a_t_profits, .int t_items, .int t_room, .int t_breakPlace, .int t_breakWeight, .int t_breakProfit])), (a_p1, .inr (1, [.ref a_p1_weights, .ref a_p1_profits, .int p1_items, .int p1_room, .int p1_most, .int p1_steps])), (a_t_itemAt, .inl (cy 0, 60, .inl t_itemAt)), (a_p1_profits, .inl (cy 0, 60, .inl p1_profits)), (a_p1_weights, .inl (cy 0, 60, .inl p1_weights)), (a_t_placeOf, .inl (cy 0, 60, .inl t_placeOf)), (a_t_weights, .inl (cy 0, 60, .inl t_weights)), (a_t_profits, .inl (cy 0, 60, .inl t_profits))] → va_S A s.heap H locs → lv_has ls 4 [(0, .ref a_t), (1, .ref a_p1), (2, .int v2), (3, .int v3)] → W p l e (headSpec wsX2_rank ({ frames := 1, cells := 0, slots := 0, locals := 22 } : Room)).room s m args below meth c H locs 0 0 Q (F0 m 28 ls []) := by
        intro n
        induction n with
        | zero => intro t_items t_room t_breakPlace t_breakWeight t_breakProfit t_itemAt t_placeOf t_weights t_profits v2 v3 h; exact False.elim h
        | succ n28 ih28 =>
          intro t_items t_room t_breakPlace t_breakWeight t_breakProfit t_itemAt t_placeOf t_weights t_profits v2 v3 h H locs ls hP hD hS hl
          replace h : wX2_rank_28_b p1_items p1_room p1_profits p1_weights (wX2_rank_18 p1_items p1_room p1_profits p1_weights post n18) post (wX2_rank_28 p1_items p1_room p1_profits p1_weights (wX2_rank_18 p1_items p1_room p1_profits p1_weights post n18) post n28) t_items t_room t_breakPlace t_breakWeight t_breakProfit t_itemAt t_placeOf t_weights t_profits v2 v3 := h
          refine lv_iload_n hx hb dX2_rank_28 rfl (lv_at hl 3 rfl) ?_
          refine lv_if_le (tgt := 68) hx hb dX2_rank_29 (by decide) (fun c_2 => ?_) (fun c_2 => ?_)
          · replace h := h.1 c_2
            exact C68 t_items t_room t_breakPlace t_breakWeight t_breakProfit t_itemAt t_placeOf t_weights t_profits v2 v3 h _ _ _ (x_sub hP [0, 1, 2, 3, 4, 5, 6, 7] rfl) (hD.sub [0, 1, 2, 3, 4, 5, 6, 7] (by decide) rfl) hS (lv_sub hl [0, 1, 2, 3] rfl)
          · replace h := h.2 c_2
            refine lv_aload_n hx hb dX2_rank_32 rfl (lv_at hl 1 rfl) ?_
            refine lv_iload_n hx hb dX2_rank_33 rfl (lv_at hl 2 rfl) ?_
            refine lv_aload_n hx hb dX2_rank_34 rfl (lv_at hl 0 rfl) ?_
            refine va_get (D := (dC, dI)) (ci := 2) (v := .ref a_t_itemAt) (C := RX2) (T := TX2) (N := 9) hx hb hts iX2_rank_X2 hown hK hP 0 rfl rfl 0 (Nat.le_of_ble_eq_true rfl) (hts _ kX2_rank_2) (fun _ h9 => h9) rfl dX2_rank_35 ?_
            refine lv_iload_n hx hb dX2_rank_38 rfl (lv_at hl 3 rfl) ?_
            refine lv_iconst (v := 1) hx hb dX2_rank_39 (by decide) ?_
            refine lv_isub hx hb dX2_rank_40 ?_
            refine va_iald (D := (dC, dI)) hx hb hK hP 2 0 rfl rfl h.1 dX2_rank_41 ?_
            replace h := h.2
            refine xVi0 (As := [.int v2, .int (t_itemAt ((v3 - (1 : Int32))).toNatClampNeg)]) (rest := []) ⟨hx, hb, hml, hown, hts⟩ (mtX1_isBetter l ad dC dI cy a_p1 a_p1_weights a_p1_profits _ p1_items p1_room p1_most p1_steps p1_profits p1_weights v2 (t_itemAt ((v3 - (1 : Int32))).toNatClampNeg) h) (cwV 2 hts gX2_rank_X1_isBetter rfl rfl rfl qX1_isBetter ⟨Nat.le_of_ble_eq_true rfl, Nat.le_of_ble_eq_true rfl⟩) hE hK hP hD hS hA 1 0 rfl rfl rfl [1, 3, 4] rfl (by decide) rfl hl.1 rfl (Nat.le_of_ble_eq_true rfl) dX2_rank_42 ⟨Nat.le_refl _, Nat.le_refl _⟩ (fun r42 H locs h hP hS => ?_)
            try dsimp only at h
            refine lv_if_eq (tgt := 68) hx hb dX2_rank_45 (by decide) (fun c_3 => ?_) (fun c_3 => ?_)
            · replace h := h.1 c_3
              exact C68 t_items t_room t_breakPlace t_breakWeight t_breakProfit t_itemAt t_placeOf t_weights t_profits v2 v3 h _ _ _ (x_sub hP [0, 1, 2, 3, 4, 5, 6, 7] rfl) (hD.sub [0, 1, 2, 3, 4, 5, 6, 7] (by decide) rfl) hS (lv_sub hl [0, 1, 2, 3] rfl)
            · replace h := h.2 c_3
              refine lv_aload_n hx hb dX2_rank_48 rfl (lv_at hl 0 rfl) ?_
              refine va_get (D := (dC, dI)) (ci := 2) (v := .ref a_t_itemAt) (C := RX2) (T := TX2) (N := 9) hx hb hts iX2_rank_X2 hown hK hP 0 rfl rfl 0 (Nat.le_of_ble_eq_true rfl) (hts _ kX2_rank_2) (fun _ h9 => h9) rfl dX2_rank_49 ?_
              refine lv_iload_n hx hb dX2_rank_52 rfl (lv_at hl 3 rfl) ?_
              refine lv_aload_n hx hb dX2_rank_53 rfl (lv_at hl 0 rfl) ?_
              refine va_get (D := (dC, dI)) (ci := 2) (v := .ref a_t_itemAt) (C := RX2) (T := TX2) (N := 9) hx hb hts iX2_rank_X2 hown hK hP 0 rfl rfl 0 (Nat.le_of_ble_eq_true rfl) (hts _ kX2_rank_2) (fun _ h9 => h9) rfl dX2_rank_54 ?_
              refine lv_iload_n hx hb dX2_rank_57 rfl (lv_at hl 3 rfl) ?_
              refine lv_iconst (v := 1) hx hb dX2_rank_58 (by decide) ?_
              refine lv_isub hx hb dX2_rank_59 ?_
              refine va_iald (D := (dC, dI)) hx hb hK hP 2 0 rfl rfl h.1 dX2_rank_60 ?_
              replace h := h.2
              refine va_iast (D := (dC, dI)) hx hb hK hP hD hS 2 0 rfl rfl h.1 dX2_rank_61 (fun H locs hP hD hS => ?_)
              replace h := h.2
              have hP : va_P (dC, dI) vwCl [(a_t, .inr (2, [.ref a_t_itemAt, .ref a_t_placeOf, .ref a_t_weights, .ref a_t_profits, .int t_items, .int t_room, .int t_breakPlace, .int t_breakWeight, .int t_breakProfit])), (a_p1, .inr (1, [.ref a_p1_weights, .ref a_p1_profits, .int p1_items, .int p1_room, .int p1_most, .int p1_steps])), (a_t_itemAt, .inl (cy 0, 60, .inl (upd t_itemAt (v3).toNatClampNeg (t_itemAt ((v3 - (1 : Int32))).toNatClampNeg)))), (a_p1_profits, .inl (cy 0, 60, .inl p1_profits)), (a_p1_weights, .inl (cy 0, 60, .inl p1_weights)), (a_t_placeOf, .inl (cy 0, 60, .inl t_placeOf)), (a_t_weights, .inl (cy 0, 60, .inl t_weights)), (a_t_profits, .inl (cy 0, 60, .inl t_profits))] H := hP
              have hD : va_D A [(a_t, .inr (2, [.ref a_t_itemAt, .ref a_t_placeOf, .ref a_t_weights, .ref a_t_profits, .int t_items, .int t_room, .int t_breakPlace, .int t_breakWeight, .int t_breakProfit])), (a_p1, .inr (1, [.ref a_p1_weights, .ref a_p1_profits, .int p1_items, .int p1_room, .int p1_most, .int p1_steps])), (a_t_itemAt, .inl (cy 0, 60, .inl (upd t_itemAt (v3).toNatClampNeg (t_itemAt ((v3 - (1 : Int32))).toNatClampNeg)))), (a_p1_profits, .inl (cy 0, 60, .inl p1_profits)), (a_p1_weights, .inl (cy 0, 60, .inl p1_weights)), (a_t_placeOf, .inl (cy 0, 60, .inl t_placeOf)), (a_t_weights, .inl (cy 0, 60, .inl t_weights)), (a_t_profits, .inl (cy 0, 60, .inl t_profits))] := hD
              refine lv_iinc (v := (v3 + (-1 : Int32))) (lv' := [(3, .int (v3 + (-1 : Int32))), (0, .ref a_t), (1, .ref a_p1), (2, .int v2)]) hx hb dX2_rank_62 hl (k := 3) rfl rfl (by decide) rfl (fun ls hl => ?_)
              refine lv_goto (tgt := 28) hx hb dX2_rank_65 (by decide) ?_
              exact ih28 t_items t_room t_breakPlace t_breakWeight t_breakProfit (upd t_itemAt (v3).toNatClampNeg (t_itemAt ((v3 - (1 : Int32))).toNatClampNeg)) t_placeOf t_weights t_profits v2 (v3 + (-1 : Int32)) h _ _ _ (x_sub hP [0, 1, 2, 3, 4, 5, 6, 7] rfl) (hD.sub [0, 1, 2, 3, 4, 5, 6, 7] (by decide) rfl) hS (lv_sub hl [1, 2, 3, 0] rfl)
      intro t_items t_room t_breakPlace t_breakWeight t_breakProfit t_itemAt t_placeOf t_weights t_profits v2 h H locs ls hP hD hS hl
      replace h : wX2_rank_18_b p1_items p1_room p1_profits p1_weights post (wX2_rank_18 p1_items p1_room p1_profits p1_weights post n18) t_items t_room t_breakPlace t_breakWeight t_breakProfit t_itemAt t_placeOf t_weights t_profits v2 := h
      refine lv_iload_n hx hb dX2_rank_18 rfl (lv_at hl 2 rfl) ?_
      refine lv_aload_n hx hb dX2_rank_19 rfl (lv_at hl 0 rfl) ?_
      refine va_get (D := (dC, dI)) (ci := 2) (v := .int t_items) (C := RX2) (T := TX2) (N := 9) hx hb hts iX2_rank_X2 hown hK hP 0 rfl rfl 4 (Nat.le_of_ble_eq_true rfl) (hts _ kX2_rank_0) (fun _ h9 => h9) rfl dX2_rank_20 ?_
      refine lv_icmp_ge (tgt := 81) hx hb dX2_rank_23 (by decide) (fun c_4 => ?_) (fun c_4 => ?_)
      · replace h := h.1 c_4
        refine lv_iconst (v := 0) hx hb dX2_rank_81 (by decide) ?_
        refine lv_istore_n (lv' := [(2, .int (0 : Int32)), (0, .ref a_t), (1, .ref a_p1)]) hx hb dX2_rank_82 rfl hl (by decide) rfl (fun ls hl => ?_)
        obtain ⟨n9, h⟩ := h
        exact L83 n9 t_items t_room t_breakPlace t_breakWeight t_breakProfit t_itemAt t_placeOf t_weights t_profits (0 : Int32) h _ _ _ (x_sub hP [0, 1, 2, 3, 4, 5, 6, 7] rfl) (hD.sub [0, 1, 2, 3, 4, 5, 6, 7] (by decide) rfl) hS (lv_sub hl [1, 2, 0] rfl)
      · replace h := h.2 c_4
        refine lv_iload_n hx hb dX2_rank_26 rfl (lv_at hl 2 rfl) ?_
        refine lv_istore_n (lv' := [(3, .int v2), (0, .ref a_t), (1, .ref a_p1), (2, .int v2)]) hx hb dX2_rank_27 rfl hl (by decide) rfl (fun ls hl => ?_)
        obtain ⟨n9, h⟩ := h
        exact L28 n9 t_items t_room t_breakPlace t_breakWeight t_breakProfit t_itemAt t_placeOf t_weights t_profits v2 v2 h _ _ _ (x_sub hP [0, 1, 2, 3, 4, 5, 6, 7] rfl) (hD.sub [0, 1, 2, 3, 4, 5, 6, 7] (by decide) rfl) hS (lv_sub hl [1, 2, 3, 0] rfl)
  refine lv_aload_n hx hb dX2_rank_0 rfl (lv_at hl 0 rfl) ?_
  refine lv_aload_n hx hb dX2_rank_1 rfl (lv_at hl 1 rfl) ?_
  refine va_get (D := (dC, dI)) (ci := 1) (v := .int p1_items) (C := RX1) (T := TX1) (N := 6) hx hb hts iX2_rank_X1 hown hK hP 1 rfl rfl 2 (Nat.le_of_ble_eq_true rfl) (hts _ kX2_rank_7) (fun _ h9 => h9) rfl dX2_rank_2 ?_
  refine va_put (D := (dC, dI)) (ci := 2) (v := .int p1_items) (C := RX2) (T := TX2) (N := 9) hx hb hts iX2_rank_X2 tyX2 tyX2_ok nmX2 hown hK hP hD hS 0 rfl rfl 4 (Nat.le_of_ble_eq_true rfl) (hts _ kX2_rank_0) (fun _ h9 => h9) rfl (tyX2_ok 4 (Nat.le_of_ble_eq_true rfl)) rfl rfl (Nat.le_of_ble_eq_true rfl) dX2_rank_5 (fun H locs hP hD hS => ?_)
  have hP : va_P (dC, dI) vwCl [(a_t, .inr (2, [.ref a_t_itemAt, .ref a_t_placeOf, .ref a_t_weights, .ref a_t_profits, .int p1_items, .int t_room, .int t_breakPlace, .int t_breakWeight, .int t_breakProfit])), (a_p1, .inr (1, [.ref a_p1_weights, .ref a_p1_profits, .int p1_items, .int p1_room, .int p1_most, .int p1_steps])), (a_t_itemAt, .inl (cy 0, 60, .inl t_itemAt)), (a_p1_profits, .inl (cy 0, 60, .inl p1_profits)), (a_p1_weights, .inl (cy 0, 60, .inl p1_weights)), (a_t_placeOf, .inl (cy 0, 60, .inl t_placeOf)), (a_t_weights, .inl (cy 0, 60, .inl t_weights)), (a_t_profits, .inl (cy 0, 60, .inl t_profits))] H := hP
  have hD : va_D A [(a_t, .inr (2, [.ref a_t_itemAt, .ref a_t_placeOf, .ref a_t_weights, .ref a_t_profits, .int p1_items, .int t_room, .int t_breakPlace, .int t_breakWeight, .int t_breakProfit])), (a_p1, .inr (1, [.ref a_p1_weights, .ref a_p1_profits, .int p1_items, .int p1_room, .int p1_most, .int p1_steps])), (a_t_itemAt, .inl (cy 0, 60, .inl t_itemAt)), (a_p1_profits, .inl (cy 0, 60, .inl p1_profits)), (a_p1_weights, .inl (cy 0, 60, .inl p1_weights)), (a_t_placeOf, .inl (cy 0, 60, .inl t_placeOf)), (a_t_weights, .inl (cy 0, 60, .inl t_weights)), (a_t_profits, .inl (cy 0, 60, .inl t_profits))] := hD
  refine lv_aload_n hx hb dX2_rank_8 rfl (lv_at hl 0 rfl) ?_
  refine lv_aload_n hx hb dX2_rank_9 rfl (lv_at hl 1 rfl) ?_
  refine va_get (D := (dC, dI)) (ci := 1) (v := .int p1_room) (C := RX1) (T := TX1) (N := 6) hx hb hts iX2_rank_X1 hown hK hP 1 rfl rfl 3 (Nat.le_of_ble_eq_true rfl) (hts _ kX2_rank_8) (fun _ h9 => h9) rfl dX2_rank_10 ?_
  refine va_put (D := (dC, dI)) (ci := 2) (v := .int p1_room) (C := RX2) (T := TX2) (N := 9) hx hb hts iX2_rank_X2 tyX2 tyX2_ok nmX2 hown hK hP hD hS 0 rfl rfl 5 (Nat.le_of_ble_eq_true rfl) (hts _ kX2_rank_9) (fun _ h9 => h9) rfl (tyX2_ok 5 (Nat.le_of_ble_eq_true rfl)) rfl rfl (Nat.le_of_ble_eq_true rfl) dX2_rank_13 (fun H locs hP hD hS => ?_)
  have hP : va_P (dC, dI) vwCl [(a_t, .inr (2, [.ref a_t_itemAt, .ref a_t_placeOf, .ref a_t_weights, .ref a_t_profits, .int p1_items, .int p1_room, .int t_breakPlace, .int t_breakWeight, .int t_breakProfit])), (a_p1, .inr (1, [.ref a_p1_weights, .ref a_p1_profits, .int p1_items, .int p1_room, .int p1_most, .int p1_steps])), (a_t_itemAt, .inl (cy 0, 60, .inl t_itemAt)), (a_p1_profits, .inl (cy 0, 60, .inl p1_profits)), (a_p1_weights, .inl (cy 0, 60, .inl p1_weights)), (a_t_placeOf, .inl (cy 0, 60, .inl t_placeOf)), (a_t_weights, .inl (cy 0, 60, .inl t_weights)), (a_t_profits, .inl (cy 0, 60, .inl t_profits))] H := hP
  have hD : va_D A [(a_t, .inr (2, [.ref a_t_itemAt, .ref a_t_placeOf, .ref a_t_weights, .ref a_t_profits, .int p1_items, .int p1_room, .int t_breakPlace, .int t_breakWeight, .int t_breakProfit])), (a_p1, .inr (1, [.ref a_p1_weights, .ref a_p1_profits, .int p1_items, .int p1_room, .int p1_most, .int p1_steps])), (a_t_itemAt, .inl (cy 0, 60, .inl t_itemAt)), (a_p1_profits, .inl (cy 0, 60, .inl p1_profits)), (a_p1_weights, .inl (cy 0, 60, .inl p1_weights)), (a_t_placeOf, .inl (cy 0, 60, .inl t_placeOf)), (a_t_weights, .inl (cy 0, 60, .inl t_weights)), (a_t_profits, .inl (cy 0, 60, .inl t_profits))] := hD
  refine lv_iconst (v := 0) hx hb dX2_rank_16 (by decide) ?_
  refine lv_istore_n (lv' := [(2, .int (0 : Int32)), (0, .ref a_t), (1, .ref a_p1)]) hx hb dX2_rank_17 rfl hl (by decide) rfl (fun ls hl => ?_)
  obtain ⟨n9, h⟩ := h
  exact L18 n9 p1_items p1_room t_breakPlace t_breakWeight t_breakProfit t_itemAt t_placeOf t_weights t_profits (0 : Int32) h _ _ _ (x_sub hP [0, 1, 2, 3, 4, 5, 6, 7] rfl) (hD.sub [0, 1, 2, 3, 4, 5, 6, 7] (by decide) rfl) hS (lv_sub hl [1, 2, 0] rfl)

/-- KnapsackCore$Ranked.roomLeft()J -/
def wX2_roomLeft (t_room t_breakWeight : Int32) (post : Int64 → Prop)  : Prop :=
  post ((t_room).toInt64 - (t_breakWeight).toInt64)
theorem kX2_roomLeft_0 : Cond.fieldLink RX2 34 "KnapsackCore$Ranked" "room" "I" ∈ wsX2_roomLeft := (List.mem_cons_of_mem _ (List.mem_append_left _ (List.mem_of_getElem? (i := 0) rfl)))
theorem kX2_roomLeft_1 : Cond.fieldLink RX2 47 "KnapsackCore$Ranked" "breakWeight" "I" ∈ wsX2_roomLeft := (List.mem_cons_of_mem _ (List.mem_append_left _ (List.mem_of_getElem? (i := 1) rfl)))
theorem iX2_roomLeft_X2 : ∀ w ∈ u_ws RX2 TX2 9, w ∈ wsX2_roomLeft := fun w h => (List.mem_cons_of_mem _ (List.mem_append_right _ h))
set_option maxHeartbeats 4000000 in
set_option maxRecDepth 100000 in
theorem mtX2_roomLeft (l : Launch) (ad : (Nat → Nat) × (Nat → Nat)) (dC : Nat → ClassId) (dI : Nat → Nat → Nat) (cy : Nat → ClassId) (a_t a_t_itemAt a_t_placeOf a_t_weights a_t_profits : Nat) (sz : Nat) (t_items t_room t_breakPlace t_breakWeight t_breakProfit : Int32) {post : Int64 → Prop} (h : wX2_roomLeft t_room t_breakWeight post) : xMl l yX2_roomLeft wsX2_roomLeft ({ frames := 0, cells := 0, slots := 0, locals := 0 } : Room) ad (dC, dI) vwCl (xT cy) [.ref a_t] [(a_t, .inr (2, [.ref a_t_itemAt, .ref a_t_placeOf, .ref a_t_weights, .ref a_t_profits, .int t_items, .int t_room, .int t_breakPlace, .int t_breakWeight, .int t_breakProfit]))] sz (fun (r : Int64) (_ : Unit) => post r) (fun (_ : Unit) w => w = [(a_t, .inr (2, [.ref a_t_itemAt, .ref a_t_placeOf, .ref a_t_weights, .ref a_t_profits, .int t_items, .int t_room, .int t_breakPlace, .int t_breakWeight, .int t_breakProfit]))]) 0 0 := by
  unfold xMl
  refine Met.ofW (cc := cX2_roomLeft) (maxL := 1) (ret := (some .long)) (by decide +kernel) rfl ?_
  intro p e s m args below meth c s₁ B hml hv
  obtain ⟨rfl, hsz, hP, hK, hD0, hE⟩ := hv
  have hx := B.exec
  have hb := B.bytes
  have hr := B.returns
  have hts := atoms_spec (ws := wsX2_roomLeft) B.pre
  have hown : s.vm.findClass RX2 = some m.cls := findClass_of_methodNamed B.named
  have hlocks := B.notSynchronized
  subst hsz
  have hD := hD0.self (sz := s.heap.size)
  generalize hAe : va_A [(a_t, .inr (2, [.ref a_t_itemAt, .ref a_t_placeOf, .ref a_t_weights, .ref a_t_profits, .int t_items, .int t_room, .int t_breakPlace, .int t_breakWeight, .int t_breakProfit]))] s.heap.size = A at hD hE ⊢
  have hA : ∀ q : Nat, s.heap.size ≤ q → A q := fun q h => by rw [← hAe]; exact Or.inr h
  have hS : va_S A s.heap s.heap [] := va_S.rf
  have hl := lv_entry ([.ref a_t]) (n := 1) (Nat.le_of_ble_eq_true rfl)
  rw [lg_entry_eq]
  generalize (lg_sl ([.ref a_t]) ++ List.replicate (1 - (lg_sl ([.ref a_t])).length) Slot.unset).toArray = ls at hl ⊢
  have hl : lv_has ls 1 [(0, .ref a_t)] := hl
  generalize hQ : MQ below _ _ s _ _ _ = Q
  generalize ([.ref a_t] : List Value).toArray = args at hts hQ ⊢
  clear B hD0 hAe
  refine lv_aload_n hx hb dX2_roomLeft_0 rfl (lv_at hl 0 rfl) ?_
  refine va_get (D := (dC, dI)) (ci := 2) (v := .int t_room) (C := RX2) (T := TX2) (N := 9) hx hb hts iX2_roomLeft_X2 hown hK hP 0 rfl rfl 5 (Nat.le_of_ble_eq_true rfl) (hts _ kX2_roomLeft_0) (fun _ h9 => h9) rfl dX2_roomLeft_1 ?_
  refine lv_i2l hx hb dX2_roomLeft_4 rfl ?_
  refine lv_aload_n hx hb dX2_roomLeft_5 rfl (lv_at hl 0 rfl) ?_
  refine va_get (D := (dC, dI)) (ci := 2) (v := .int t_breakWeight) (C := RX2) (T := TX2) (N := 9) hx hb hts iX2_roomLeft_X2 hown hK hP 0 rfl rfl 7 (Nat.le_of_ble_eq_true rfl) (hts _ kX2_roomLeft_1) (fun _ h9 => h9) rfl dX2_roomLeft_6 ?_
  refine lv_i2l hx hb dX2_roomLeft_9 rfl ?_
  refine lv_lsub hx hb dX2_roomLeft_10 ?_
  rw [← hQ]
  exact W.lret (v := ((t_room).toInt64 - (t_breakWeight).toInt64)) hx hb hr (fun t ht hW => ⟨⟨((t_room).toInt64 - (t_breakWeight).toInt64), (), rfl, h, x_end (w1 := [(a_t, .inr (2, [.ref a_t_itemAt, .ref a_t_placeOf, .ref a_t_weights, .ref a_t_profits, .int t_items, .int t_room, .int t_breakPlace, .int t_breakWeight, .int t_breakProfit]))]) hP hD hK [0] rfl (by decide) rfl ht hW⟩, hS.F ht⟩) hS.2.2 dX2_roomLeft_11
