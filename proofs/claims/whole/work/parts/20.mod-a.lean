/-- KnapsackCoreModel.in(JJJ)Z -/
def wX7_in (post : Int32 → Prop) (v0 v2 v4 : Int64) : Prop :=
  (v0 < v2 → post (0 : Int32)) ∧ (¬ v0 < v2 → (v4 < v0 → post (0 : Int32)) ∧ (¬ v4 < v0 → post (1 : Int32)))
set_option maxHeartbeats 4000000 in
set_option maxRecDepth 100000 in
theorem mtX7_in (l : Launch) (ad : (Nat → Nat) × (Nat → Nat)) (dC : Nat → ClassId) (dI : Nat → Nat → Nat) (cy : Nat → ClassId) (sz : Nat) (v0 v2 v4 : Int64) {post : Int32 → Prop} (h : wX7_in post v0 v2 v4) : xMi l yX7_in wsX7_in ({ frames := 0, cells := 0, slots := 0, locals := 0 } : Room) ad (dC, dI) vwCl (xT cy) [.long v0, .long v2, .long v4] [] sz (fun (r : Int32) (_ : Unit) => post r) (fun (_ : Unit) w => w = []) 0 0 := by
  unfold xMi
  refine Met.ofW (cc := cX7_in) (maxL := 6) (ret := (some .boolean)) (by decide +kernel) rfl ?_
  intro p e s m args below meth c s₁ B hml hv
  obtain ⟨rfl, hsz, hP, hK, hD0, hE⟩ := hv
  have hx := B.exec
  have hb := B.bytes
  have hr := B.returns
  have hts := atoms_spec (ws := wsX7_in) B.pre
  have hown : s.vm.findClass RX7 = some m.cls := findClass_of_methodNamed B.named
  have hlocks := B.notSynchronized
  subst hsz
  have hD := hD0.self (sz := s.heap.size)
  generalize hAe : va_A [] s.heap.size = A at hD hE ⊢
  have hA : ∀ q : Nat, s.heap.size ≤ q → A q := fun q h => by rw [← hAe]; exact Or.inr h
  have hS : va_S A s.heap s.heap [] := va_S.rf
  have hl := lv_entry ([.long v0, .long v2, .long v4]) (n := 6) (Nat.le_of_ble_eq_true rfl)
  rw [lg_entry_eq]
  generalize (lg_sl ([.long v0, .long v2, .long v4]) ++ List.replicate (6 - (lg_sl ([.long v0, .long v2, .long v4])).length) Slot.unset).toArray = ls at hl ⊢
  have hl : lv_has ls 6 [(0, .long v0), (2, .long v2), (4, .long v4)] := hl
  generalize hQ : MQ below _ _ s _ _ _ = Q
  generalize ([.long v0, .long v2, .long v4] : List Value).toArray = args at hts hQ ⊢
  clear B hD0 hAe
  refine lv_lload_n hx hb dX7_in_0 rfl (lv_at hl 0 rfl) ?_
  refine lv_lload_n hx hb dX7_in_1 rfl (lv_at hl 1 rfl) ?_
  refine W.lcmp hx hb dX7_in_2 ?_
  refine lv_if_lt (tgt := 17) hx hb dX7_in_3 (by decide) (fun c_1 => ?_) (fun c_1 => ?_)
  · replace h := h.1 ((lg_cmp_lt _ _).mp c_1)
    refine lv_iconst (v := 0) hx hb dX7_in_17 (by decide) ?_
    subst hQ
    exact W.zret (v := (0 : Int32)) hx hb hr rfl (fun t ht hW => ⟨⟨(0 : Int32), (), rfl, h, x_end (w1 := []) hP hD hK [] rfl (by decide) rfl ht hW⟩, hS.F ht⟩) hS.2.2 dX7_in_18
  · replace h := h.2 (fun z9 => c_1 ((lg_cmp_lt _ _).mpr z9))
    refine lv_lload_n hx hb dX7_in_6 rfl (lv_at hl 0 rfl) ?_
    refine lv_lload hx hb dX7_in_7 (lv_at hl 2 rfl) ?_
    refine W.lcmp hx hb dX7_in_9 ?_
    refine lv_if_gt (tgt := 17) hx hb dX7_in_10 (by decide) (fun c_2 => ?_) (fun c_2 => ?_)
    · replace h := h.1 ((lg_cmp_gt _ _).mp c_2)
      refine lv_iconst (v := 0) hx hb dX7_in_17 (by decide) ?_
      subst hQ
      exact W.zret (v := (0 : Int32)) hx hb hr rfl (fun t ht hW => ⟨⟨(0 : Int32), (), rfl, h, x_end (w1 := []) hP hD hK [] rfl (by decide) rfl ht hW⟩, hS.F ht⟩) hS.2.2 dX7_in_18
    · replace h := h.2 (fun z9 => c_2 ((lg_cmp_gt _ _).mpr z9))
      refine lv_iconst (v := 1) hx hb dX7_in_13 (by decide) ?_
      refine lv_goto (tgt := 18) hx hb dX7_in_14 (by decide) ?_
      subst hQ
      exact W.zret (v := (1 : Int32)) hx hb hr rfl (fun t ht hW => ⟨⟨(1 : Int32), (), rfl, h, x_end (w1 := []) hP hD hK [] rfl (by decide) rfl ht hW⟩, hS.F ht⟩) hS.2.2 dX7_in_18

/-- KnapsackCoreModel.see()I -/
def wX7_see (t_reached t_length : Int32) (t_text : Nat → Int32) (post : Int32 → Prop)  : Prop :=
  (t_length ≤ t_reached → post (-1 : Int32)) ∧ (¬ t_length ≤ t_reached → vp_in t_reached 2400 ∧ post ((t_text (t_reached).toNatClampNeg) &&& (255 : Int32)))
theorem kX7_see_0 : Cond.fieldLink RX7 64 "KnapsackCoreModel" "reached" "I" ∈ wsX7_see := (List.mem_cons_of_mem _ (List.mem_append_left _ (List.mem_of_getElem? (i := 0) rfl)))
theorem kX7_see_1 : Cond.fieldLink RX7 67 "KnapsackCoreModel" "length" "I" ∈ wsX7_see := (List.mem_cons_of_mem _ (List.mem_append_left _ (List.mem_of_getElem? (i := 1) rfl)))
theorem kX7_see_2 : Cond.fieldLink RX7 13 "KnapsackCoreModel" "text" "[B" ∈ wsX7_see := (List.mem_cons_of_mem _ (List.mem_append_left _ (List.mem_of_getElem? (i := 2) rfl)))
theorem iX7_see_X7 : ∀ w ∈ u_ws RX7 TX7 41, w ∈ wsX7_see := fun w h => (List.mem_cons_of_mem _ (List.mem_append_right _ h))
set_option maxHeartbeats 4000000 in
set_option maxRecDepth 100000 in
theorem mtX7_see (l : Launch) (ad : (Nat → Nat) × (Nat → Nat)) (dC : Nat → ClassId) (dI : Nat → Nat → Nat) (cy : Nat → ClassId) (a_t a_t_all a_t_text a_t_saved a_t_undone a_t_told a_t_orderOf a_t_placeOf a_t_w a_t_p a_t_setBits a_t_setWeight a_t_setProfit a_t_nextBits a_t_nextWeight a_t_nextProfit : Nat) (sz : Nat) (t_raised t_undos t_reached t_length t_begin t_sort : Int32) (t_value t_word : Int64) (t_wrongAt t_badAt t_bad : Int32) (t_toldWeight t_toldProfit : Int64) (t_many : Int32) (t_room : Int64) (t_breakAt : Int32) (t_breakWeight t_breakProfit : Int64) (t_from t_to t_made t_sets : Int32) (t_bestBits t_bestWeight t_bestProfit : Int64) (t_nexts : Int32) (t_text : Nat → Int32) {post : Int32 → Prop} (h : wX7_see t_reached t_length t_text post) : xMi l yX7_see wsX7_see ({ frames := 0, cells := 0, slots := 0, locals := 0 } : Room) ad (dC, dI) vwCl (xT cy) [.ref a_t] [(a_t, .inr (7, [.int t_raised, .ref a_t_all, .ref a_t_text, .ref a_t_saved, .ref a_t_undone, .int t_undos, .int t_reached, .int t_length, .int t_begin, .int t_sort, .long t_value, .long t_word, .int t_wrongAt, .int t_badAt, .int t_bad, .ref a_t_told, .long t_toldWeight, .long t_toldProfit, .int t_many, .long t_room, .ref a_t_orderOf, .ref a_t_placeOf, .ref a_t_w, .ref a_t_p, .int t_breakAt, .long t_breakWeight, .long t_breakProfit, .int t_from, .int t_to, .int t_made, .int t_sets, .ref a_t_setBits, .ref a_t_setWeight, .ref a_t_setProfit, .long t_bestBits, .long t_bestWeight, .long t_bestProfit, .int t_nexts, .ref a_t_nextBits, .ref a_t_nextWeight, .ref a_t_nextProfit])), (a_t_text, .inl (cy 2, 2400, .inl t_text))] sz (fun (r : Int32) (_ : Unit) => post r) (fun (_ : Unit) w => w = [(a_t, .inr (7, [.int t_raised, .ref a_t_all, .ref a_t_text, .ref a_t_saved, .ref a_t_undone, .int t_undos, .int t_reached, .int t_length, .int t_begin, .int t_sort, .long t_value, .long t_word, .int t_wrongAt, .int t_badAt, .int t_bad, .ref a_t_told, .long t_toldWeight, .long t_toldProfit, .int t_many, .long t_room, .ref a_t_orderOf, .ref a_t_placeOf, .ref a_t_w, .ref a_t_p, .int t_breakAt, .long t_breakWeight, .long t_breakProfit, .int t_from, .int t_to, .int t_made, .int t_sets, .ref a_t_setBits, .ref a_t_setWeight, .ref a_t_setProfit, .long t_bestBits, .long t_bestWeight, .long t_bestProfit, .int t_nexts, .ref a_t_nextBits, .ref a_t_nextWeight, .ref a_t_nextProfit])), (a_t_text, .inl (cy 2, 2400, .inl t_text))]) 0 0 := by
  unfold xMi
  refine Met.ofW (cc := cX7_see) (maxL := 1) (ret := (some .int)) (by decide +kernel) rfl ?_
  intro p e s m args below meth c s₁ B hml hv
  obtain ⟨rfl, hsz, hP, hK, hD0, hE⟩ := hv
  have hx := B.exec
  have hb := B.bytes
  have hr := B.returns
  have hts := atoms_spec (ws := wsX7_see) B.pre
  have hown : s.vm.findClass RX7 = some m.cls := findClass_of_methodNamed B.named
  have hlocks := B.notSynchronized
  subst hsz
  have hD := hD0.self (sz := s.heap.size)
  generalize hAe : va_A [(a_t, .inr (7, [.int t_raised, .ref a_t_all, .ref a_t_text, .ref a_t_saved, .ref a_t_undone, .int t_undos, .int t_reached, .int t_length, .int t_begin, .int t_sort, .long t_value, .long t_word, .int t_wrongAt, .int t_badAt, .int t_bad, .ref a_t_told, .long t_toldWeight, .long t_toldProfit, .int t_many, .long t_room, .ref a_t_orderOf, .ref a_t_placeOf, .ref a_t_w, .ref a_t_p, .int t_breakAt, .long t_breakWeight, .long t_breakProfit, .int t_from, .int t_to, .int t_made, .int t_sets, .ref a_t_setBits, .ref a_t_setWeight, .ref a_t_setProfit, .long t_bestBits, .long t_bestWeight, .long t_bestProfit, .int t_nexts, .ref a_t_nextBits, .ref a_t_nextWeight, .ref a_t_nextProfit])), (a_t_text, .inl (cy 2, 2400, .inl t_text))] s.heap.size = A at hD hE ⊢
  have hA : ∀ q : Nat, s.heap.size ≤ q → A q := fun q h => by rw [← hAe]; exact Or.inr h
  have hS : va_S A s.heap s.heap [] := va_S.rf
  have hl := lv_entry ([.ref a_t]) (n := 1) (Nat.le_of_ble_eq_true rfl)
  rw [lg_entry_eq]
  generalize (lg_sl ([.ref a_t]) ++ List.replicate (1 - (lg_sl ([.ref a_t])).length) Slot.unset).toArray = ls at hl ⊢
  have hl : lv_has ls 1 [(0, .ref a_t)] := hl
  generalize hQ : MQ below _ _ s _ _ _ = Q
  generalize ([.ref a_t] : List Value).toArray = args at hts hQ ⊢
  clear B hD0 hAe
  refine lv_aload_n hx hb dX7_see_0 rfl (lv_at hl 0 rfl) ?_
  refine va_get (D := (dC, dI)) (ci := 7) (v := .int t_reached) (C := RX7) (T := TX7) (N := 41) hx hb hts iX7_see_X7 hown hK hP 0 rfl rfl 6 (Nat.le_of_ble_eq_true rfl) (hts _ kX7_see_0) (fun _ h9 => h9) rfl dX7_see_1 ?_
  refine lv_aload_n hx hb dX7_see_4 rfl (lv_at hl 0 rfl) ?_
  refine va_get (D := (dC, dI)) (ci := 7) (v := .int t_length) (C := RX7) (T := TX7) (N := 41) hx hb hts iX7_see_X7 hown hK hP 0 rfl rfl 7 (Nat.le_of_ble_eq_true rfl) (hts _ kX7_see_1) (fun _ h9 => h9) rfl dX7_see_5 ?_
  refine lv_icmp_ge (tgt := 27) hx hb dX7_see_8 (by decide) (fun c_1 => ?_) (fun c_1 => ?_)
  · replace h := h.1 c_1
    refine lv_iconst (v := -1) hx hb dX7_see_27 (by decide) ?_
    subst hQ
    exact W.iret (v := (-1 : Int32)) hx hb hr (fun t ht hW => ⟨⟨(-1 : Int32), (), rfl, h, x_end (w1 := [(a_t, .inr (7, [.int t_raised, .ref a_t_all, .ref a_t_text, .ref a_t_saved, .ref a_t_undone, .int t_undos, .int t_reached, .int t_length, .int t_begin, .int t_sort, .long t_value, .long t_word, .int t_wrongAt, .int t_badAt, .int t_bad, .ref a_t_told, .long t_toldWeight, .long t_toldProfit, .int t_many, .long t_room, .ref a_t_orderOf, .ref a_t_placeOf, .ref a_t_w, .ref a_t_p, .int t_breakAt, .long t_breakWeight, .long t_breakProfit, .int t_from, .int t_to, .int t_made, .int t_sets, .ref a_t_setBits, .ref a_t_setWeight, .ref a_t_setProfit, .long t_bestBits, .long t_bestWeight, .long t_bestProfit, .int t_nexts, .ref a_t_nextBits, .ref a_t_nextWeight, .ref a_t_nextProfit])), (a_t_text, .inl (cy 2, 2400, .inl t_text))]) hP hD hK [0, 1] rfl (by decide) rfl ht hW⟩, hS.F ht⟩) hS.2.2 dX7_see_28
  · replace h := h.2 c_1
    refine lv_aload_n hx hb dX7_see_11 rfl (lv_at hl 0 rfl) ?_
    refine va_get (D := (dC, dI)) (ci := 7) (v := .ref a_t_text) (C := RX7) (T := TX7) (N := 41) hx hb hts iX7_see_X7 hown hK hP 0 rfl rfl 2 (Nat.le_of_ble_eq_true rfl) (hts _ kX7_see_2) (fun _ h9 => h9) rfl dX7_see_12 ?_
    refine lv_aload_n hx hb dX7_see_15 rfl (lv_at hl 0 rfl) ?_
    refine va_get (D := (dC, dI)) (ci := 7) (v := .int t_reached) (C := RX7) (T := TX7) (N := 41) hx hb hts iX7_see_X7 hown hK hP 0 rfl rfl 6 (Nat.le_of_ble_eq_true rfl) (hts _ kX7_see_0) (fun _ h9 => h9) rfl dX7_see_16 ?_
    refine va_bald (D := (dC, dI)) hx hb hK hP 1 2 rfl rfl h.1 dX7_see_19 ?_
    replace h := h.2
    refine lv_sipush (v := 255) hx hb dX7_see_20 (by decide) ?_
    refine lv_iand hx hb dX7_see_23 ?_
    refine lv_goto (tgt := 28) hx hb dX7_see_24 (by decide) ?_
    subst hQ
    exact W.iret (v := ((t_text (t_reached).toNatClampNeg) &&& (255 : Int32))) hx hb hr (fun t ht hW => ⟨⟨((t_text (t_reached).toNatClampNeg) &&& (255 : Int32)), (), rfl, h, x_end (w1 := [(a_t, .inr (7, [.int t_raised, .ref a_t_all, .ref a_t_text, .ref a_t_saved, .ref a_t_undone, .int t_undos, .int t_reached, .int t_length, .int t_begin, .int t_sort, .long t_value, .long t_word, .int t_wrongAt, .int t_badAt, .int t_bad, .ref a_t_told, .long t_toldWeight, .long t_toldProfit, .int t_many, .long t_room, .ref a_t_orderOf, .ref a_t_placeOf, .ref a_t_w, .ref a_t_p, .int t_breakAt, .long t_breakWeight, .long t_breakProfit, .int t_from, .int t_to, .int t_made, .int t_sets, .ref a_t_setBits, .ref a_t_setWeight, .ref a_t_setProfit, .long t_bestBits, .long t_bestWeight, .long t_bestProfit, .int t_nexts, .ref a_t_nextBits, .ref a_t_nextWeight, .ref a_t_nextProfit])), (a_t_text, .inl (cy 2, 2400, .inl t_text))]) hP hD hK [0, 1] rfl (by decide) rfl ht hW⟩, hS.F ht⟩) hS.2.2 dX7_see_28

/-- KnapsackCoreModel.downwards(JJ)J -/
def wX7_downwards (post : Int64 → Prop) (v0 v2 : Int64) : Prop :=
  ¬ v2 = (0 : Int64) ∧ ¬ v2 = (0 : Int64) ∧ ((0 : Int64) ≤ (v0 - v0 / v2 * v2) → post (v0 / v2)) ∧ (¬ (0 : Int64) ≤ (v0 - v0 / v2 * v2) → post ((v0 / v2) - (1 : Int64)))
set_option maxHeartbeats 4000000 in
set_option maxRecDepth 100000 in
theorem mtX7_downwards (l : Launch) (ad : (Nat → Nat) × (Nat → Nat)) (dC : Nat → ClassId) (dI : Nat → Nat → Nat) (cy : Nat → ClassId) (sz : Nat) (v0 v2 : Int64) {post : Int64 → Prop} (h : wX7_downwards post v0 v2) : xMl l yX7_downwards wsX7_downwards ({ frames := 0, cells := 0, slots := 0, locals := 0 } : Room) ad (dC, dI) vwCl (xT cy) [.long v0, .long v2] [] sz (fun (r : Int64) (_ : Unit) => post r) (fun (_ : Unit) w => w = []) 0 0 := by
  unfold xMl
  refine Met.ofW (cc := cX7_downwards) (maxL := 6) (ret := (some .long)) (by decide +kernel) rfl ?_
  intro p e s m args below meth c s₁ B hml hv
  obtain ⟨rfl, hsz, hP, hK, hD0, hE⟩ := hv
  have hx := B.exec
  have hb := B.bytes
  have hr := B.returns
  have hts := atoms_spec (ws := wsX7_downwards) B.pre
  have hown : s.vm.findClass RX7 = some m.cls := findClass_of_methodNamed B.named
  have hlocks := B.notSynchronized
  subst hsz
  have hD := hD0.self (sz := s.heap.size)
  generalize hAe : va_A [] s.heap.size = A at hD hE ⊢
  have hA : ∀ q : Nat, s.heap.size ≤ q → A q := fun q h => by rw [← hAe]; exact Or.inr h
  have hS : va_S A s.heap s.heap [] := va_S.rf
  have hl := lv_entry ([.long v0, .long v2]) (n := 6) (Nat.le_of_ble_eq_true rfl)
  rw [lg_entry_eq]
  generalize (lg_sl ([.long v0, .long v2]) ++ List.replicate (6 - (lg_sl ([.long v0, .long v2])).length) Slot.unset).toArray = ls at hl ⊢
  have hl : lv_has ls 6 [(0, .long v0), (2, .long v2)] := hl
  generalize hQ : MQ below _ _ s _ _ _ = Q
  generalize ([.long v0, .long v2] : List Value).toArray = args at hts hQ ⊢
  clear B hD0 hAe
  refine lv_lload_n hx hb dX7_downwards_0 rfl (lv_at hl 0 rfl) ?_
  refine lv_lload_n hx hb dX7_downwards_1 rfl (lv_at hl 1 rfl) ?_
  refine lv_ldiv hx hb dX7_downwards_2 h.1 ?_
  replace h := h.2
  refine lv_lstore (lv' := [(4, .long (v0 / v2)), (0, .long v0), (2, .long v2)]) hx hb dX7_downwards_3 hl (by decide) rfl (fun ls hl => ?_)
  refine lv_lload_n hx hb dX7_downwards_5 rfl (lv_at hl 1 rfl) ?_
  refine lv_lload_n hx hb dX7_downwards_6 rfl (lv_at hl 2 rfl) ?_
  refine lv_lrem hx hb dX7_downwards_7 h.1 ?_
  replace h := h.2
  refine lv_lconst (v := 0) hx hb dX7_downwards_8 (by decide) ?_
  refine W.lcmp hx hb dX7_downwards_9 ?_
  refine lv_if_ge (tgt := 20) hx hb dX7_downwards_10 (by decide) (fun c_1 => ?_) (fun c_1 => ?_)
  · replace h := h.1 ((lg_cmp_ge _ _).mp c_1)
    refine lv_lload hx hb dX7_downwards_20 (lv_at hl 0 rfl) ?_
    subst hQ
    exact W.lret (v := (v0 / v2)) hx hb hr (fun t ht hW => ⟨⟨(v0 / v2), (), rfl, h, x_end (w1 := []) hP hD hK [] rfl (by decide) rfl ht hW⟩, hS.F ht⟩) hS.2.2 dX7_downwards_22
  · replace h := h.2 (fun z9 => c_1 ((lg_cmp_ge _ _).mpr z9))
    refine lv_lload hx hb dX7_downwards_13 (lv_at hl 0 rfl) ?_
    refine lv_lconst (v := 1) hx hb dX7_downwards_15 (by decide) ?_
    refine lv_lsub hx hb dX7_downwards_16 ?_
    refine lv_goto (tgt := 22) hx hb dX7_downwards_17 (by decide) ?_
    subst hQ
    exact W.lret (v := ((v0 / v2) - (1 : Int64))) hx hb hr (fun t ht hW => ⟨⟨((v0 / v2) - (1 : Int64)), (), rfl, h, x_end (w1 := []) hP hD hK [] rfl (by decide) rfl ht hW⟩, hS.F ht⟩) hS.2.2 dX7_downwards_22

theorem qX7_in : yX7_in.cls = RX7 ∧ yX7_in.cls ≠ "java/lang/invoke/MethodHandle" ∧ yX7_in.cls ≠ "java/lang/invoke/VarHandle" ∧ (parseMethodDescriptor yX7_in.desc).map (fun d => d.parameters.length) = some 3 := by decide +kernel
theorem qX7_see : yX7_see.cls = RX7 ∧ yX7_see.cls ≠ "java/lang/invoke/MethodHandle" ∧ yX7_see.cls ≠ "java/lang/invoke/VarHandle" ∧ (parseMethodDescriptor yX7_see.desc).map (fun d => d.parameters.length) = some 0 := by decide +kernel
def wX7_token_280 (t_length : Int32) (t_text : Nat → Int32) (post : Int32 → Int32 → Int32 → Int64 → Int64 → Prop) (t_reached t_begin t_sort : Int32) (t_value t_word : Int64) (k1 : Int32) : Prop :=
  post t_reached t_begin k1 t_value t_word
def wX7_token_252 (t_length : Int32) (t_text : Nat → Int32) (post : Int32 → Int32 → Int32 → Int64 → Int64 → Prop) (t_reached t_begin t_sort : Int32) (t_value t_word : Int64) (k1 : Int32) : Prop :=
  post t_reached t_begin k1 t_value t_word
def wX7_token_221 (t_length : Int32) (t_text : Nat → Int32) (K172 : Int32 → Int32 → Int32 → Int64 → Int64 → Int32 → Prop) (post : Int32 → Int32 → Int32 → Int64 → Int64 → Prop) (t_reached t_begin t_sort : Int32) (t_value t_word : Int64) (v2 : Int32) (k1 : Int64) : Prop :=
  K172 (t_reached + (1 : Int32)) t_begin t_sort k1 t_word (v2 + (1 : Int32))
def wX7_token_208 (t_length : Int32) (t_text : Nat → Int32) (K172 : Int32 → Int32 → Int32 → Int64 → Int64 → Int32 → Prop) (post : Int32 → Int32 → Int32 → Int64 → Int64 → Prop) (t_reached t_begin t_sort : Int32) (t_value t_word : Int64) (v2 : Int32) (k1 : Int64) (k2 : Int32) : Prop :=
  wX7_token_221 t_length t_text K172 post t_reached t_begin t_sort t_value t_word v2 ((k1 + (k2).toInt64) - (48 : Int64))
def wX7_token_186 (t_length : Int32) (t_text : Nat → Int32) (K172 : Int32 → Int32 → Int32 → Int64 → Int64 → Int32 → Prop) (post : Int32 → Int32 → Int32 → Int64 → Int64 → Prop) (t_reached t_begin t_sort : Int32) (t_value t_word : Int64) (v2 k0 : Int32) : Prop :=
  (k0 = (0 : Int32) → (v2 ≤ (10 : Int32) → wX7_token_252 t_length t_text post t_reached t_begin t_sort t_value t_word (3 : Int32)) ∧ (¬ v2 ≤ (10 : Int32) → wX7_token_252 t_length t_text post t_reached t_begin t_sort t_value t_word (1 : Int32))) ∧ (¬ k0 = (0 : Int32) → ((10 : Int32) ≤ v2 → wX7_token_221 t_length t_text K172 post t_reached t_begin t_sort t_value t_word v2 t_value) ∧ (¬ (10 : Int32) ≤ v2 → wX7_see t_reached t_length t_text (fun r205 => wX7_token_208 t_length t_text K172 post t_reached t_begin t_sort t_value t_word v2 ((10 : Int64) * t_value) r205)))
def wX7_token_176 (t_length : Int32) (t_text : Nat → Int32) (K172 : Int32 → Int32 → Int32 → Int64 → Int64 → Int32 → Prop) (post : Int32 → Int32 → Int32 → Int64 → Int64 → Prop) (t_reached t_begin t_sort : Int32) (t_value t_word : Int64) (v2 k0 : Int32) : Prop :=
  wX7_in (fun r183 => wX7_token_186 t_length t_text K172 post t_reached t_begin t_sort t_value t_word v2 r183) ((k0).toInt64) (48 : Int64) (57 : Int64)
def wX7_token_172_b (t_length : Int32) (t_text : Nat → Int32) (post : Int32 → Int32 → Int32 → Int64 → Int64 → Prop) (K172 : Int32 → Int32 → Int32 → Int64 → Int64 → Int32 → Prop) (t_reached t_begin t_sort : Int32) (t_value t_word : Int64) (v2 : Int32) : Prop :=
  wX7_see t_reached t_length t_text (fun r173 => wX7_token_176 t_length t_text K172 post t_reached t_begin t_sort t_value t_word v2 r173)
def wX7_token_172 (t_length : Int32) (t_text : Nat → Int32) (post : Int32 → Int32 → Int32 → Int64 → Int64 → Prop) : Nat → Int32 → Int32 → Int32 → Int64 → Int64 → Int32 → Prop
  | 0 => fun _ _ _ _ _ _ => False
  | n + 1 => wX7_token_172_b t_length t_text post (wX7_token_172 t_length t_text post n)
def wX7_token_164 (t_length : Int32) (t_text : Nat → Int32) (post : Int32 → Int32 → Int32 → Int64 → Int64 → Prop) (t_reached t_begin t_sort : Int32) (t_value t_word : Int64) (v1 v2 k0 : Int32) : Prop :=
  (k0 = (0 : Int32) → (v1 = (59 : Int32) → wX7_token_280 t_length t_text post (t_reached + (1 : Int32)) t_begin t_sort t_value t_word (4 : Int32)) ∧ (¬ v1 = (59 : Int32) → wX7_token_280 t_length t_text post (t_reached + (1 : Int32)) t_begin t_sort t_value t_word (1 : Int32))) ∧ (¬ k0 = (0 : Int32) → ∃ n : Nat, wX7_token_172 t_length t_text post n t_reached t_begin t_sort (0 : Int64) t_word v2)
def wX7_token_142 (t_length : Int32) (t_text : Nat → Int32) (post : Int32 → Int32 → Int32 → Int64 → Int64 → Prop) (t_reached t_begin t_sort : Int32) (t_value t_word k1 : Int64) : Prop :=
  post t_reached t_begin (2 : Int32) t_value k1
def wX7_token_106 (t_length : Int32) (t_text : Nat → Int32) (K77 : Int32 → Int32 → Int32 → Int64 → Int64 → Int32 → Prop) (post : Int32 → Int32 → Int32 → Int64 → Int64 → Prop) (t_reached t_begin t_sort : Int32) (t_value t_word : Int64) (v2 : Int32) (k1 : Int64) (k2 : Int32) : Prop :=
  K77 (t_reached + (1 : Int32)) t_begin t_sort t_value (k1 ||| (k2).toInt64) (v2 + (1 : Int32))
def wX7_token_91 (t_length : Int32) (t_text : Nat → Int32) (K77 : Int32 → Int32 → Int32 → Int64 → Int64 → Int32 → Prop) (post : Int32 → Int32 → Int32 → Int64 → Int64 → Prop) (t_reached t_begin t_sort : Int32) (t_value t_word : Int64) (v2 k0 : Int32) : Prop :=
  (k0 = (0 : Int32) → (v2 ≤ (8 : Int32) → wX7_token_142 t_length t_text post t_reached t_begin t_sort t_value t_word t_word) ∧ (¬ v2 ≤ (8 : Int32) → wX7_token_142 t_length t_text post t_reached t_begin t_sort t_value t_word (0 : Int64))) ∧ (¬ k0 = (0 : Int32) → wX7_see t_reached t_length t_text (fun r103 => wX7_token_106 t_length t_text K77 post t_reached t_begin t_sort t_value t_word v2 (t_word <<< (((8 : Int32)).toInt64 &&& 63)) r103))
def wX7_token_81 (t_length : Int32) (t_text : Nat → Int32) (K77 : Int32 → Int32 → Int32 → Int64 → Int64 → Int32 → Prop) (post : Int32 → Int32 → Int32 → Int64 → Int64 → Prop) (t_reached t_begin t_sort : Int32) (t_value t_word : Int64) (v2 k0 : Int32) : Prop :=
  wX7_in (fun r88 => wX7_token_91 t_length t_text K77 post t_reached t_begin t_sort t_value t_word v2 r88) ((k0).toInt64) (97 : Int64) (122 : Int64)
def wX7_token_77_b (t_length : Int32) (t_text : Nat → Int32) (post : Int32 → Int32 → Int32 → Int64 → Int64 → Prop) (K77 : Int32 → Int32 → Int32 → Int64 → Int64 → Int32 → Prop) (t_reached t_begin t_sort : Int32) (t_value t_word : Int64) (v2 : Int32) : Prop :=
  wX7_see t_reached t_length t_text (fun r78 => wX7_token_81 t_length t_text K77 post t_reached t_begin t_sort t_value t_word v2 r78)
def wX7_token_77 (t_length : Int32) (t_text : Nat → Int32) (post : Int32 → Int32 → Int32 → Int64 → Int64 → Prop) : Nat → Int32 → Int32 → Int32 → Int64 → Int64 → Int32 → Prop
  | 0 => fun _ _ _ _ _ _ => False
  | n + 1 => wX7_token_77_b t_length t_text post (wX7_token_77 t_length t_text post n)
def wX7_token_74 (t_length : Int32) (t_text : Nat → Int32) (post : Int32 → Int32 → Int32 → Int64 → Int64 → Prop) (t_reached t_begin t_sort : Int32) (t_value t_word : Int64) (v1 v2 k0 : Int32) : Prop :=
  (k0 = (0 : Int32) → wX7_in (fun r161 => wX7_token_164 t_length t_text post t_reached t_begin t_sort t_value t_word v1 v2 r161) ((v1).toInt64) (48 : Int64) (57 : Int64)) ∧ (¬ k0 = (0 : Int32) → ∃ n : Nat, wX7_token_77 t_length t_text post n t_reached t_begin t_sort t_value t_word v2)
def wX7_token_43 (t_length : Int32) (t_text : Nat → Int32) (post : Int32 → Int32 → Int32 → Int64 → Int64 → Prop) (t_reached t_begin t_sort : Int32) (t_value t_word : Int64) (k0 : Int32) : Prop :=
  ((0 : Int32) ≤ k0 → wX7_in (fun r71 => wX7_token_74 t_length t_text post t_reached t_begin t_sort t_value (0 : Int64) k0 (0 : Int32) r71) ((k0).toInt64) (97 : Int64) (122 : Int64)) ∧ (¬ (0 : Int32) ≤ k0 → post t_reached t_begin (0 : Int32) t_value (0 : Int64))
def wX7_token_18 (t_length : Int32) (t_text : Nat → Int32) (K0 : Int32 → Int32 → Int32 → Int64 → Int64 → Prop) (post : Int32 → Int32 → Int32 → Int64 → Int64 → Prop) (t_reached t_begin t_sort : Int32) (t_value t_word : Int64) : Prop :=
  K0 (t_reached + (1 : Int32)) t_begin t_sort t_value t_word
def wX7_token_13 (t_length : Int32) (t_text : Nat → Int32) (K0 : Int32 → Int32 → Int32 → Int64 → Int64 → Prop) (post : Int32 → Int32 → Int32 → Int64 → Int64 → Prop) (t_reached t_begin t_sort : Int32) (t_value t_word : Int64) (k0 : Int32) : Prop :=
  (k0 = (32 : Int32) → wX7_token_18 t_length t_text K0 post t_reached t_begin t_sort t_value t_word) ∧ (¬ k0 = (32 : Int32) → wX7_see t_reached t_length t_text (fun r40 => wX7_token_43 t_length t_text post t_reached t_reached t_sort t_value t_word r40))
def wX7_token_4 (t_length : Int32) (t_text : Nat → Int32) (K0 : Int32 → Int32 → Int32 → Int64 → Int64 → Prop) (post : Int32 → Int32 → Int32 → Int64 → Int64 → Prop) (t_reached t_begin t_sort : Int32) (t_value t_word : Int64) (k0 : Int32) : Prop :=
  (k0 = (10 : Int32) → wX7_token_18 t_length t_text K0 post t_reached t_begin t_sort t_value t_word) ∧ (¬ k0 = (10 : Int32) → wX7_see t_reached t_length t_text (fun r10 => wX7_token_13 t_length t_text K0 post t_reached t_begin t_sort t_value t_word r10))
def wX7_token_0_b (t_length : Int32) (t_text : Nat → Int32) (post : Int32 → Int32 → Int32 → Int64 → Int64 → Prop) (K0 : Int32 → Int32 → Int32 → Int64 → Int64 → Prop) (t_reached t_begin t_sort : Int32) (t_value t_word : Int64) : Prop :=
  wX7_see t_reached t_length t_text (fun r1 => wX7_token_4 t_length t_text K0 post t_reached t_begin t_sort t_value t_word r1)
def wX7_token_0 (t_length : Int32) (t_text : Nat → Int32) (post : Int32 → Int32 → Int32 → Int64 → Int64 → Prop) : Nat → Int32 → Int32 → Int32 → Int64 → Int64 → Prop
  | 0 => fun _ _ _ _ _ => False
  | n + 1 => wX7_token_0_b t_length t_text post (wX7_token_0 t_length t_text post n)
/-- KnapsackCoreModel.token()V -/
def wX7_token (t_length : Int32) (t_text : Nat → Int32) (post : Int32 → Int32 → Int32 → Int64 → Int64 → Prop) (t_reached t_begin t_sort : Int32) (t_value t_word : Int64) : Prop :=
  ∃ n : Nat, wX7_token_0 t_length t_text post n t_reached t_begin t_sort t_value t_word
theorem kX7_token_0 : Cond.fieldLink RX7 81 "KnapsackCoreModel" "sort" "I" ∈ wsX7_token := (List.mem_cons_of_mem _ (List.mem_append_left _ (List.mem_of_getElem? (i := 3) rfl)))
theorem kX7_token_1 : Cond.fieldLink RX7 96 "KnapsackCoreModel" "value" "J" ∈ wsX7_token := (List.mem_cons_of_mem _ (List.mem_append_left _ (List.mem_of_getElem? (i := 8) rfl)))
theorem kX7_token_2 : Cond.fieldLink RX7 64 "KnapsackCoreModel" "reached" "I" ∈ wsX7_token := (List.mem_cons_of_mem _ (List.mem_append_left _ (List.mem_of_getElem? (i := 0) rfl)))
theorem kX7_token_3 : Cond.constantLong RX7 92 (48) ∈ wsX7_token := (List.mem_cons_of_mem _ (List.mem_append_left _ (List.mem_of_getElem? (i := 6) rfl)))
theorem kX7_token_4 : Cond.constantLong RX7 99 (10) ∈ wsX7_token := (List.mem_cons_of_mem _ (List.mem_append_left _ (List.mem_of_getElem? (i := 9) rfl)))
theorem kX7_token_5 : Cond.constantLong RX7 94 (57) ∈ wsX7_token := (List.mem_cons_of_mem _ (List.mem_append_left _ (List.mem_of_getElem? (i := 7) rfl)))
theorem kX7_token_6 : Cond.fieldLink RX7 77 "KnapsackCoreModel" "word" "J" ∈ wsX7_token := (List.mem_cons_of_mem _ (List.mem_append_left _ (List.mem_of_getElem? (i := 2) rfl)))
theorem kX7_token_7 : Cond.constantLong RX7 84 (97) ∈ wsX7_token := (List.mem_cons_of_mem _ (List.mem_append_left _ (List.mem_of_getElem? (i := 4) rfl)))
theorem kX7_token_8 : Cond.constantLong RX7 86 (122) ∈ wsX7_token := (List.mem_cons_of_mem _ (List.mem_append_left _ (List.mem_of_getElem? (i := 5) rfl)))
theorem kX7_token_9 : Cond.fieldLink RX7 74 "KnapsackCoreModel" "begin" "I" ∈ wsX7_token := (List.mem_cons_of_mem _ (List.mem_append_left _ (List.mem_of_getElem? (i := 1) rfl)))
theorem iX7_token_X7 : ∀ w ∈ u_ws RX7 TX7 41, w ∈ wsX7_token := fun w h => (List.mem_cons_of_mem _ (List.mem_append_right _ h))
set_option maxHeartbeats 4000000 in
set_option maxRecDepth 100000 in
theorem mtX7_token (l : Launch) (ad : (Nat → Nat) × (Nat → Nat)) (dC : Nat → ClassId) (dI : Nat → Nat → Nat) (cy : Nat → ClassId) (a_t a_t_all a_t_text a_t_saved a_t_undone a_t_told a_t_orderOf a_t_placeOf a_t_w a_t_p a_t_setBits a_t_setWeight a_t_setProfit a_t_nextBits a_t_nextWeight a_t_nextProfit : Nat) (sz : Nat) (t_raised t_undos t_reached t_length t_begin t_sort : Int32) (t_value t_word : Int64) (t_wrongAt t_badAt t_bad : Int32) (t_toldWeight t_toldProfit : Int64) (t_many : Int32) (t_room : Int64) (t_breakAt : Int32) (t_breakWeight t_breakProfit : Int64) (t_from t_to t_made t_sets : Int32) (t_bestBits t_bestWeight t_bestProfit : Int64) (t_nexts : Int32) (t_text : Nat → Int32) {post : Int32 → Int32 → Int32 → Int64 → Int64 → Prop} (h : wX7_token t_length t_text post t_reached t_begin t_sort t_value t_word) : xMv l yX7_token wsX7_token ({ frames := 1, cells := 0, slots := 0, locals := 25 } : Room) ad (dC, dI) vwCl (xT cy) [.ref a_t] [(a_t, .inr (7, [.int t_raised, .ref a_t_all, .ref a_t_text, .ref a_t_saved, .ref a_t_undone, .int t_undos, .int t_reached, .int t_length, .int t_begin, .int t_sort, .long t_value, .long t_word, .int t_wrongAt, .int t_badAt, .int t_bad, .ref a_t_told, .long t_toldWeight, .long t_toldProfit, .int t_many, .long t_room, .ref a_t_orderOf, .ref a_t_placeOf, .ref a_t_w, .ref a_t_p, .int t_breakAt, .long t_breakWeight, .long t_breakProfit, .int t_from, .int t_to, .int t_made, .int t_sets, .ref a_t_setBits, .ref a_t_setWeight, .ref a_t_setProfit, .long t_bestBits, .long t_bestWeight, .long t_bestProfit, .int t_nexts, .ref a_t_nextBits, .ref a_t_nextWeight, .ref a_t_nextProfit])), (a_t_text, .inl (cy 2, 2400, .inl t_text))] sz (fun (u : Int32 × Int32 × Int32 × Int64 × Int64) => post u.1 u.2.1 u.2.2.1 u.2.2.2.1 u.2.2.2.2) (fun (u : Int32 × Int32 × Int32 × Int64 × Int64) w => w = [(a_t, .inr (7, [.int t_raised, .ref a_t_all, .ref a_t_text, .ref a_t_saved, .ref a_t_undone, .int t_undos, .int u.1, .int t_length, .int u.2.1, .int u.2.2.1, .long u.2.2.2.1, .long u.2.2.2.2, .int t_wrongAt, .int t_badAt, .int t_bad, .ref a_t_told, .long t_toldWeight, .long t_toldProfit, .int t_many, .long t_room, .ref a_t_orderOf, .ref a_t_placeOf, .ref a_t_w, .ref a_t_p, .int t_breakAt, .long t_breakWeight, .long t_breakProfit, .int t_from, .int t_to, .int t_made, .int t_sets, .ref a_t_setBits, .ref a_t_setWeight, .ref a_t_setProfit, .long t_bestBits, .long t_bestWeight, .long t_bestProfit, .int t_nexts, .ref a_t_nextBits, .ref a_t_nextWeight, .ref a_t_nextProfit])), (a_t_text, .inl (cy 2, 2400, .inl t_text))]) 0 0 := by
  unfold xMv
  refine Met.ofW (cc := cX7_token) (maxL := 3) (ret := none) (by decide +kernel) rfl ?_
  intro p e s m args below meth c s₁ B hml hv
  obtain ⟨rfl, hsz, hP, hK, hD0, hE⟩ := hv
  have hx := B.exec
  have hb := B.bytes
  have hr := B.returns
  have hts := atoms_spec (ws := wsX7_token) B.pre
  have hown : s.vm.findClass RX7 = some m.cls := findClass_of_methodNamed B.named
  have hlocks := B.notSynchronized
  subst hsz
  have hD := hD0.self (sz := s.heap.size)
  generalize hAe : va_A [(a_t, .inr (7, [.int t_raised, .ref a_t_all, .ref a_t_text, .ref a_t_saved, .ref a_t_undone, .int t_undos, .int t_reached, .int t_length, .int t_begin, .int t_sort, .long t_value, .long t_word, .int t_wrongAt, .int t_badAt, .int t_bad, .ref a_t_told, .long t_toldWeight, .long t_toldProfit, .int t_many, .long t_room, .ref a_t_orderOf, .ref a_t_placeOf, .ref a_t_w, .ref a_t_p, .int t_breakAt, .long t_breakWeight, .long t_breakProfit, .int t_from, .int t_to, .int t_made, .int t_sets, .ref a_t_setBits, .ref a_t_setWeight, .ref a_t_setProfit, .long t_bestBits, .long t_bestWeight, .long t_bestProfit, .int t_nexts, .ref a_t_nextBits, .ref a_t_nextWeight, .ref a_t_nextProfit])), (a_t_text, .inl (cy 2, 2400, .inl t_text))] s.heap.size = A at hD hE ⊢
  have hA : ∀ q : Nat, s.heap.size ≤ q → A q := fun q h => by rw [← hAe]; exact Or.inr h
  have hS : va_S A s.heap s.heap [] := va_S.rf
  have hl := lv_entry ([.ref a_t]) (n := 3) (Nat.le_of_ble_eq_true rfl)
  rw [lg_entry_eq]
  generalize (lg_sl ([.ref a_t]) ++ List.replicate (3 - (lg_sl ([.ref a_t])).length) Slot.unset).toArray = ls at hl ⊢
  have hl : lv_has ls 3 [(0, .ref a_t)] := hl
  generalize hQ : MQ below _ _ s _ _ _ = Q
  generalize ([.ref a_t] : List Value).toArray = args at hts hQ ⊢
  clear B hD0 hAe
  have C280 : ∀ (t_reached t_begin t_sort : Int32) (t_value t_word : Int64) (k1 : Int32), wX7_token_280 t_length t_text post t_reached t_begin t_sort t_value t_word k1 → ∀ (H : Heap) (locs : List Loc) (ls : Array Slot), va_P (dC, dI) vwCl [(a_t, .inr (7, [.int t_raised, .ref a_t_all, .ref a_t_text, .ref a_t_saved, .ref a_t_undone, .int t_undos, .int t_reached, .int t_length, .int t_begin, .int t_sort, .long t_value, .long t_word, .int t_wrongAt, .int t_badAt, .int t_bad, .ref a_t_told, .long t_toldWeight, .long t_toldProfit, .int t_many, .long t_room, .ref a_t_orderOf, .ref a_t_placeOf, .ref a_t_w, .ref a_t_p, .int t_breakAt, .long t_breakWeight, .long t_breakProfit, .int t_from, .int t_to, .int t_made, .int t_sets, .ref a_t_setBits, .ref a_t_setWeight, .ref a_t_setProfit, .long t_bestBits, .long t_bestWeight, .long t_bestProfit, .int t_nexts, .ref a_t_nextBits, .ref a_t_nextWeight, .ref a_t_nextProfit])), (a_t_text, .inl (cy 2, 2400, .inl t_text))] H → va_D A [(a_t, .inr (7, [.int t_raised, .ref a_t_all, .ref a_t_text, .ref a_t_saved, .ref a_t_undone, .int t_undos, .int t_reached, .int t_length, .int t_begin, .int t_sort, .long t_value, .long t_word, .int t_wrongAt, .int t_badAt, .int t_bad, .ref a_t_told, .long t_toldWeight, .long t_toldProfit, .int t_many, .long t_room, .ref a_t_orderOf, .ref a_t_placeOf, .ref a_t_w, .ref a_t_p, .int t_breakAt, .long t_breakWeight, .long t_breakProfit, .int t_from, .int t_to, .int t_made, .int t_sets, .ref a_t_setBits, .ref a_t_setWeight, .ref a_t_setProfit, .long t_bestBits, .long t_bestWeight, .long t_bestProfit, .int t_nexts, .ref a_t_nextBits, .ref a_t_nextWeight, .ref a_t_nextProfit])), (a_t_text, .inl (cy 2, 2400, .inl t_text))] → va_S A s.heap H locs → lv_has ls 3 [] → W p l e (headSpec wsX7_token ({ frames := 1, cells := 0, slots := 0, locals := 25 } : Room)).room s m args below meth c H locs 0 0 Q (F0 m 280 ls [.int k1, .ref a_t]) := by
    intro t_reached t_begin t_sort t_value t_word k1 h H locs ls hP hD hS hl
    refine va_put (D := (dC, dI)) (ci := 7) (v := .int k1) (C := RX7) (T := TX7) (N := 41) hx hb hts iX7_token_X7 tyX7 tyX7_ok nmX7 hown hK hP hD hS 0 rfl rfl 9 (Nat.le_of_ble_eq_true rfl) (hts _ kX7_token_0) (fun _ h9 => h9) rfl (tyX7_ok 9 (Nat.le_of_ble_eq_true rfl)) rfl rfl (Nat.le_of_ble_eq_true rfl) dX7_token_280 (fun H locs hP hD hS => ?_)
    have hP : va_P (dC, dI) vwCl [(a_t, .inr (7, [.int t_raised, .ref a_t_all, .ref a_t_text, .ref a_t_saved, .ref a_t_undone, .int t_undos, .int t_reached, .int t_length, .int t_begin, .int k1, .long t_value, .long t_word, .int t_wrongAt, .int t_badAt, .int t_bad, .ref a_t_told, .long t_toldWeight, .long t_toldProfit, .int t_many, .long t_room, .ref a_t_orderOf, .ref a_t_placeOf, .ref a_t_w, .ref a_t_p, .int t_breakAt, .long t_breakWeight, .long t_breakProfit, .int t_from, .int t_to, .int t_made, .int t_sets, .ref a_t_setBits, .ref a_t_setWeight, .ref a_t_setProfit, .long t_bestBits, .long t_bestWeight, .long t_bestProfit, .int t_nexts, .ref a_t_nextBits, .ref a_t_nextWeight, .ref a_t_nextProfit])), (a_t_text, .inl (cy 2, 2400, .inl t_text))] H := hP
    have hD : va_D A [(a_t, .inr (7, [.int t_raised, .ref a_t_all, .ref a_t_text, .ref a_t_saved, .ref a_t_undone, .int t_undos, .int t_reached, .int t_length, .int t_begin, .int k1, .long t_value, .long t_word, .int t_wrongAt, .int t_badAt, .int t_bad, .ref a_t_told, .long t_toldWeight, .long t_toldProfit, .int t_many, .long t_room, .ref a_t_orderOf, .ref a_t_placeOf, .ref a_t_w, .ref a_t_p, .int t_breakAt, .long t_breakWeight, .long t_breakProfit, .int t_from, .int t_to, .int t_made, .int t_sets, .ref a_t_setBits, .ref a_t_setWeight, .ref a_t_setProfit, .long t_bestBits, .long t_bestWeight, .long t_bestProfit, .int t_nexts, .ref a_t_nextBits, .ref a_t_nextWeight, .ref a_t_nextProfit])), (a_t_text, .inl (cy 2, 2400, .inl t_text))] := hD
    subst hQ
    exact W.vret hx hb hr (fun t ht hW => ⟨⟨(t_reached, t_begin, k1, t_value, t_word), rfl, h, x_end (w1 := [(a_t, .inr (7, [.int t_raised, .ref a_t_all, .ref a_t_text, .ref a_t_saved, .ref a_t_undone, .int t_undos, .int t_reached, .int t_length, .int t_begin, .int k1, .long t_value, .long t_word, .int t_wrongAt, .int t_badAt, .int t_bad, .ref a_t_told, .long t_toldWeight, .long t_toldProfit, .int t_many, .long t_room, .ref a_t_orderOf, .ref a_t_placeOf, .ref a_t_w, .ref a_t_p, .int t_breakAt, .long t_breakWeight, .long t_breakProfit, .int t_from, .int t_to, .int t_made, .int t_sets, .ref a_t_setBits, .ref a_t_setWeight, .ref a_t_setProfit, .long t_bestBits, .long t_bestWeight, .long t_bestProfit, .int t_nexts, .ref a_t_nextBits, .ref a_t_nextWeight, .ref a_t_nextProfit])), (a_t_text, .inl (cy 2, 2400, .inl t_text))]) hP hD hK [0, 1] rfl (by decide) rfl ht hW⟩, hS.F ht⟩) hS.2.2 dX7_token_283
  have C252 : ∀ (t_reached t_begin t_sort : Int32) (t_value t_word : Int64) (k1 : Int32), wX7_token_252 t_length t_text post t_reached t_begin t_sort t_value t_word k1 → ∀ (H : Heap) (locs : List Loc) (ls : Array Slot), va_P (dC, dI) vwCl [(a_t, .inr (7, [.int t_raised, .ref a_t_all, .ref a_t_text, .ref a_t_saved, .ref a_t_undone, .int t_undos, .int t_reached, .int t_length, .int t_begin, .int t_sort, .long t_value, .long t_word, .int t_wrongAt, .int t_badAt, .int t_bad, .ref a_t_told, .long t_toldWeight, .long t_toldProfit, .int t_many, .long t_room, .ref a_t_orderOf, .ref a_t_placeOf, .ref a_t_w, .ref a_t_p, .int t_breakAt, .long t_breakWeight, .long t_breakProfit, .int t_from, .int t_to, .int t_made, .int t_sets, .ref a_t_setBits, .ref a_t_setWeight, .ref a_t_setProfit, .long t_bestBits, .long t_bestWeight, .long t_bestProfit, .int t_nexts, .ref a_t_nextBits, .ref a_t_nextWeight, .ref a_t_nextProfit])), (a_t_text, .inl (cy 2, 2400, .inl t_text))] H → va_D A [(a_t, .inr (7, [.int t_raised, .ref a_t_all, .ref a_t_text, .ref a_t_saved, .ref a_t_undone, .int t_undos, .int t_reached, .int t_length, .int t_begin, .int t_sort, .long t_value, .long t_word, .int t_wrongAt, .int t_badAt, .int t_bad, .ref a_t_told, .long t_toldWeight, .long t_toldProfit, .int t_many, .long t_room, .ref a_t_orderOf, .ref a_t_placeOf, .ref a_t_w, .ref a_t_p, .int t_breakAt, .long t_breakWeight, .long t_breakProfit, .int t_from, .int t_to, .int t_made, .int t_sets, .ref a_t_setBits, .ref a_t_setWeight, .ref a_t_setProfit, .long t_bestBits, .long t_bestWeight, .long t_bestProfit, .int t_nexts, .ref a_t_nextBits, .ref a_t_nextWeight, .ref a_t_nextProfit])), (a_t_text, .inl (cy 2, 2400, .inl t_text))] → va_S A s.heap H locs → lv_has ls 3 [] → W p l e (headSpec wsX7_token ({ frames := 1, cells := 0, slots := 0, locals := 25 } : Room)).room s m args below meth c H locs 0 0 Q (F0 m 252 ls [.int k1, .ref a_t]) := by
    intro t_reached t_begin t_sort t_value t_word k1 h H locs ls hP hD hS hl
    refine va_put (D := (dC, dI)) (ci := 7) (v := .int k1) (C := RX7) (T := TX7) (N := 41) hx hb hts iX7_token_X7 tyX7 tyX7_ok nmX7 hown hK hP hD hS 0 rfl rfl 9 (Nat.le_of_ble_eq_true rfl) (hts _ kX7_token_0) (fun _ h9 => h9) rfl (tyX7_ok 9 (Nat.le_of_ble_eq_true rfl)) rfl rfl (Nat.le_of_ble_eq_true rfl) dX7_token_252 (fun H locs hP hD hS => ?_)
    have hP : va_P (dC, dI) vwCl [(a_t, .inr (7, [.int t_raised, .ref a_t_all, .ref a_t_text, .ref a_t_saved, .ref a_t_undone, .int t_undos, .int t_reached, .int t_length, .int t_begin, .int k1, .long t_value, .long t_word, .int t_wrongAt, .int t_badAt, .int t_bad, .ref a_t_told, .long t_toldWeight, .long t_toldProfit, .int t_many, .long t_room, .ref a_t_orderOf, .ref a_t_placeOf, .ref a_t_w, .ref a_t_p, .int t_breakAt, .long t_breakWeight, .long t_breakProfit, .int t_from, .int t_to, .int t_made, .int t_sets, .ref a_t_setBits, .ref a_t_setWeight, .ref a_t_setProfit, .long t_bestBits, .long t_bestWeight, .long t_bestProfit, .int t_nexts, .ref a_t_nextBits, .ref a_t_nextWeight, .ref a_t_nextProfit])), (a_t_text, .inl (cy 2, 2400, .inl t_text))] H := hP
    have hD : va_D A [(a_t, .inr (7, [.int t_raised, .ref a_t_all, .ref a_t_text, .ref a_t_saved, .ref a_t_undone, .int t_undos, .int t_reached, .int t_length, .int t_begin, .int k1, .long t_value, .long t_word, .int t_wrongAt, .int t_badAt, .int t_bad, .ref a_t_told, .long t_toldWeight, .long t_toldProfit, .int t_many, .long t_room, .ref a_t_orderOf, .ref a_t_placeOf, .ref a_t_w, .ref a_t_p, .int t_breakAt, .long t_breakWeight, .long t_breakProfit, .int t_from, .int t_to, .int t_made, .int t_sets, .ref a_t_setBits, .ref a_t_setWeight, .ref a_t_setProfit, .long t_bestBits, .long t_bestWeight, .long t_bestProfit, .int t_nexts, .ref a_t_nextBits, .ref a_t_nextWeight, .ref a_t_nextProfit])), (a_t_text, .inl (cy 2, 2400, .inl t_text))] := hD
    refine lv_goto (tgt := 283) hx hb dX7_token_255 (by decide) ?_
    subst hQ
    exact W.vret hx hb hr (fun t ht hW => ⟨⟨(t_reached, t_begin, k1, t_value, t_word), rfl, h, x_end (w1 := [(a_t, .inr (7, [.int t_raised, .ref a_t_all, .ref a_t_text, .ref a_t_saved, .ref a_t_undone, .int t_undos, .int t_reached, .int t_length, .int t_begin, .int k1, .long t_value, .long t_word, .int t_wrongAt, .int t_badAt, .int t_bad, .ref a_t_told, .long t_toldWeight, .long t_toldProfit, .int t_many, .long t_room, .ref a_t_orderOf, .ref a_t_placeOf, .ref a_t_w, .ref a_t_p, .int t_breakAt, .long t_breakWeight, .long t_breakProfit, .int t_from, .int t_to, .int t_made, .int t_sets, .ref a_t_setBits, .ref a_t_setWeight, .ref a_t_setProfit, .long t_bestBits, .long t_bestWeight, .long t_bestProfit, .int t_nexts, .ref a_t_nextBits, .ref a_t_nextWeight, .ref a_t_nextProfit])), (a_t_text, .inl (cy 2, 2400, .inl t_text))]) hP hD hK [0, 1] rfl (by decide) rfl ht hW⟩, hS.F ht⟩) hS.2.2 dX7_token_283
  have L172 : ∀ n : Nat, ∀ (t_reached t_begin t_sort : Int32) (t_value t_word : Int64) (v2 : Int32), wX7_token_172 t_length t_text post n t_reached t_begin t_sort t_value t_word v2 → ∀ (H : Heap) (locs : List Loc) (ls : Array Slot), va_P (dC, dI) vwCl [(a_t, .inr (7, [.int t_raised, .ref a_t_all, .ref a_t_text, .ref a_t_saved, .ref a_t_undone, .int t_undos, .int t_reached, .int t_length, .int t_begin, .int t_sort, .long t_value, .long t_word, .int t_wrongAt, .int t_badAt, .int t_bad, .ref a_t_told, .long t_toldWeight, .long t_toldProfit, .int t_many, .long t_room, .ref a_t_orderOf, .ref a_t_placeOf, .ref a_t_w, .ref a_t_p, .int t_breakAt, .long t_breakWeight, .long t_breakProfit, .int t_from, .int t_to, .int t_made, .int t_sets, .ref a_t_setBits, .ref a_t_setWeight, .ref a_t_setProfit, .long t_bestBits, .long t_bestWeight, .long t_bestProfit, .int t_nexts, .ref a_t_nextBits, .ref a_t_nextWeight, .ref a_t_nextProfit])), (a_t_text, .inl (cy 2, 2400, .inl t_text))] H → va_D A [(a_t, .inr (7, [.int t_raised, .ref a_t_all, .ref a_t_text, .ref a_t_saved, .ref a_t_undone, .int t_undos, .int t_reached, .int t_length, .int t_begin, .int t_sort, .long t_value, .long t_word, .int t_wrongAt, .int t_badAt, .int t_bad, .ref a_t_told, .long t_toldWeight, .long t_toldProfit, .int t_many, .long t_room, .ref a_t_orderOf, .ref a_t_placeOf, .ref a_t_w, .ref a_t_p, .int t_breakAt, .long t_breakWeight, .long t_breakProfit, .int t_from, .int t_to, .int t_made, .int t_sets, .ref a_t_setBits, .ref a_t_setWeight, .ref a_t_setProfit, .long t_bestBits, .long t_bestWeight, .long t_bestProfit, .int t_nexts, .ref a_t_nextBits, .ref a_t_nextWeight, .ref a_t_nextProfit])), (a_t_text, .inl (cy 2, 2400, .inl t_text))] → va_S A s.heap H locs → lv_has ls 3 [(0, .ref a_t), (2, .int v2)] → W p l e (headSpec wsX7_token ({ frames := 1, cells := 0, slots := 0, locals := 25 } : Room)).room s m args below meth c H locs 0 0 Q (F0 m 172 ls []) := by
    intro n
    induction n with
    | zero => intro t_reached t_begin t_sort t_value t_word v2 h; exact False.elim h
    | succ n172 ih172 =>
      have C221 : ∀ (t_reached t_begin t_sort : Int32) (t_value t_word : Int64) (v2 : Int32) (k1 : Int64), wX7_token_221 t_length t_text (wX7_token_172 t_length t_text post n172) post t_reached t_begin t_sort t_value t_word v2 k1 → ∀ (H : Heap) (locs : List Loc) (ls : Array Slot), va_P (dC, dI) vwCl [(a_t, .inr (7, [.int t_raised, .ref a_t_all, .ref a_t_text, .ref a_t_saved, .ref a_t_undone, .int t_undos, .int t_reached, .int t_length, .int t_begin, .int t_sort, .long t_value, .long t_word, .int t_wrongAt, .int t_badAt, .int t_bad, .ref a_t_told, .long t_toldWeight, .long t_toldProfit, .int t_many, .long t_room, .ref a_t_orderOf, .ref a_t_placeOf, .ref a_t_w, .ref a_t_p, .int t_breakAt, .long t_breakWeight, .long t_breakProfit, .int t_from, .int t_to, .int t_made, .int t_sets, .ref a_t_setBits, .ref a_t_setWeight, .ref a_t_setProfit, .long t_bestBits, .long t_bestWeight, .long t_bestProfit, .int t_nexts, .ref a_t_nextBits, .ref a_t_nextWeight, .ref a_t_nextProfit])), (a_t_text, .inl (cy 2, 2400, .inl t_text))] H → va_D A [(a_t, .inr (7, [.int t_raised, .ref a_t_all, .ref a_t_text, .ref a_t_saved, .ref a_t_undone, .int t_undos, .int t_reached, .int t_length, .int t_begin, .int t_sort, .long t_value, .long t_word, .int t_wrongAt, .int t_badAt, .int t_bad, .ref a_t_told, .long t_toldWeight, .long t_toldProfit, .int t_many, .long t_room, .ref a_t_orderOf, .ref a_t_placeOf, .ref a_t_w, .ref a_t_p, .int t_breakAt, .long t_breakWeight, .long t_breakProfit, .int t_from, .int t_to, .int t_made, .int t_sets, .ref a_t_setBits, .ref a_t_setWeight, .ref a_t_setProfit, .long t_bestBits, .long t_bestWeight, .long t_bestProfit, .int t_nexts, .ref a_t_nextBits, .ref a_t_nextWeight, .ref a_t_nextProfit])), (a_t_text, .inl (cy 2, 2400, .inl t_text))] → va_S A s.heap H locs → lv_has ls 3 [(0, .ref a_t), (2, .int v2)] → W p l e (headSpec wsX7_token ({ frames := 1, cells := 0, slots := 0, locals := 25 } : Room)).room s m args below meth c H locs 0 0 Q (F0 m 221 ls [.long k1, .ref a_t]) := by
        intro t_reached t_begin t_sort t_value t_word v2 k1 h H locs ls hP hD hS hl
        refine va_put (D := (dC, dI)) (ci := 7) (v := .long k1) (C := RX7) (T := TX7) (N := 41) hx hb hts iX7_token_X7 tyX7 tyX7_ok nmX7 hown hK hP hD hS 0 rfl rfl 10 (Nat.le_of_ble_eq_true rfl) (hts _ kX7_token_1) (fun _ h9 => h9) rfl (tyX7_ok 10 (Nat.le_of_ble_eq_true rfl)) rfl rfl (Nat.le_of_ble_eq_true rfl) dX7_token_221 (fun H locs hP hD hS => ?_)
        have hP : va_P (dC, dI) vwCl [(a_t, .inr (7, [.int t_raised, .ref a_t_all, .ref a_t_text, .ref a_t_saved, .ref a_t_undone, .int t_undos, .int t_reached, .int t_length, .int t_begin, .int t_sort, .long k1, .long t_word, .int t_wrongAt, .int t_badAt, .int t_bad, .ref a_t_told, .long t_toldWeight, .long t_toldProfit, .int t_many, .long t_room, .ref a_t_orderOf, .ref a_t_placeOf, .ref a_t_w, .ref a_t_p, .int t_breakAt, .long t_breakWeight, .long t_breakProfit, .int t_from, .int t_to, .int t_made, .int t_sets, .ref a_t_setBits, .ref a_t_setWeight, .ref a_t_setProfit, .long t_bestBits, .long t_bestWeight, .long t_bestProfit, .int t_nexts, .ref a_t_nextBits, .ref a_t_nextWeight, .ref a_t_nextProfit])), (a_t_text, .inl (cy 2, 2400, .inl t_text))] H := hP
        have hD : va_D A [(a_t, .inr (7, [.int t_raised, .ref a_t_all, .ref a_t_text, .ref a_t_saved, .ref a_t_undone, .int t_undos, .int t_reached, .int t_length, .int t_begin, .int t_sort, .long k1, .long t_word, .int t_wrongAt, .int t_badAt, .int t_bad, .ref a_t_told, .long t_toldWeight, .long t_toldProfit, .int t_many, .long t_room, .ref a_t_orderOf, .ref a_t_placeOf, .ref a_t_w, .ref a_t_p, .int t_breakAt, .long t_breakWeight, .long t_breakProfit, .int t_from, .int t_to, .int t_made, .int t_sets, .ref a_t_setBits, .ref a_t_setWeight, .ref a_t_setProfit, .long t_bestBits, .long t_bestWeight, .long t_bestProfit, .int t_nexts, .ref a_t_nextBits, .ref a_t_nextWeight, .ref a_t_nextProfit])), (a_t_text, .inl (cy 2, 2400, .inl t_text))] := hD
        refine lv_aload_n hx hb dX7_token_224 rfl (lv_at hl 0 rfl) ?_
        refine lv_dup hx hb dX7_token_225 rfl ?_
        refine va_get (D := (dC, dI)) (ci := 7) (v := .int t_reached) (C := RX7) (T := TX7) (N := 41) hx hb hts iX7_token_X7 hown hK hP 0 rfl rfl 6 (Nat.le_of_ble_eq_true rfl) (hts _ kX7_token_2) (fun _ h9 => h9) rfl dX7_token_226 ?_
        refine lv_iconst (v := 1) hx hb dX7_token_229 (by decide) ?_
        refine lv_iadd hx hb dX7_token_230 ?_
        refine va_put (D := (dC, dI)) (ci := 7) (v := .int (t_reached + (1 : Int32))) (C := RX7) (T := TX7) (N := 41) hx hb hts iX7_token_X7 tyX7 tyX7_ok nmX7 hown hK hP hD hS 0 rfl rfl 6 (Nat.le_of_ble_eq_true rfl) (hts _ kX7_token_2) (fun _ h9 => h9) rfl (tyX7_ok 6 (Nat.le_of_ble_eq_true rfl)) rfl rfl (Nat.le_of_ble_eq_true rfl) dX7_token_231 (fun H locs hP hD hS => ?_)
        have hP : va_P (dC, dI) vwCl [(a_t, .inr (7, [.int t_raised, .ref a_t_all, .ref a_t_text, .ref a_t_saved, .ref a_t_undone, .int t_undos, .int (t_reached + (1 : Int32)), .int t_length, .int t_begin, .int t_sort, .long k1, .long t_word, .int t_wrongAt, .int t_badAt, .int t_bad, .ref a_t_told, .long t_toldWeight, .long t_toldProfit, .int t_many, .long t_room, .ref a_t_orderOf, .ref a_t_placeOf, .ref a_t_w, .ref a_t_p, .int t_breakAt, .long t_breakWeight, .long t_breakProfit, .int t_from, .int t_to, .int t_made, .int t_sets, .ref a_t_setBits, .ref a_t_setWeight, .ref a_t_setProfit, .long t_bestBits, .long t_bestWeight, .long t_bestProfit, .int t_nexts, .ref a_t_nextBits, .ref a_t_nextWeight, .ref a_t_nextProfit])), (a_t_text, .inl (cy 2, 2400, .inl t_text))] H := hP
        have hD : va_D A [(a_t, .inr (7, [.int t_raised, .ref a_t_all, .ref a_t_text, .ref a_t_saved, .ref a_t_undone, .int t_undos, .int (t_reached + (1 : Int32)), .int t_length, .int t_begin, .int t_sort, .long k1, .long t_word, .int t_wrongAt, .int t_badAt, .int t_bad, .ref a_t_told, .long t_toldWeight, .long t_toldProfit, .int t_many, .long t_room, .ref a_t_orderOf, .ref a_t_placeOf, .ref a_t_w, .ref a_t_p, .int t_breakAt, .long t_breakWeight, .long t_breakProfit, .int t_from, .int t_to, .int t_made, .int t_sets, .ref a_t_setBits, .ref a_t_setWeight, .ref a_t_setProfit, .long t_bestBits, .long t_bestWeight, .long t_bestProfit, .int t_nexts, .ref a_t_nextBits, .ref a_t_nextWeight, .ref a_t_nextProfit])), (a_t_text, .inl (cy 2, 2400, .inl t_text))] := hD
        refine lv_iinc (v := (v2 + (1 : Int32))) (lv' := [(2, .int (v2 + (1 : Int32))), (0, .ref a_t)]) hx hb dX7_token_234 hl (k := 1) rfl rfl (by decide) rfl (fun ls hl => ?_)
        refine lv_goto (tgt := 172) hx hb dX7_token_237 (by decide) ?_
        exact ih172 (t_reached + (1 : Int32)) t_begin t_sort k1 t_word (v2 + (1 : Int32)) h _ _ _ (x_sub hP [0, 1] rfl) (hD.sub [0, 1] (by decide) rfl) hS (lv_sub hl [1, 0] rfl)
      intro t_reached t_begin t_sort t_value t_word v2 h H locs ls hP hD hS hl
      replace h : wX7_token_172_b t_length t_text post (wX7_token_172 t_length t_text post n172) t_reached t_begin t_sort t_value t_word v2 := h
      refine lv_aload_n hx hb dX7_token_172 rfl (lv_at hl 0 rfl) ?_
      refine xVi0 (As := []) (rest := []) ⟨hx, hb, hml, hown, hts⟩ (mtX7_see l ad dC dI cy a_t a_t_all a_t_text a_t_saved a_t_undone a_t_told a_t_orderOf a_t_placeOf a_t_w a_t_p a_t_setBits a_t_setWeight a_t_setProfit a_t_nextBits a_t_nextWeight a_t_nextProfit _ t_raised t_undos t_reached t_length t_begin t_sort t_value t_word t_wrongAt t_badAt t_bad t_toldWeight t_toldProfit t_many t_room t_breakAt t_breakWeight t_breakProfit t_from t_to t_made t_sets t_bestBits t_bestWeight t_bestProfit t_nexts t_text  h) (cwV 0 hts gX7_token_X7_see rfl rfl rfl qX7_see ⟨Nat.le_of_ble_eq_true rfl, Nat.le_of_ble_eq_true rfl⟩) hE hK hP hD hS hA 7 0 rfl rfl rfl [0, 1] rfl (by decide) rfl hl.1 rfl (Nat.le_of_ble_eq_true rfl) dX7_token_173 ⟨Nat.le_refl _, Nat.le_refl _⟩ (fun r173 H locs h hP hS => ?_)
      try dsimp only at h
      refine lv_i2l hx hb dX7_token_176 rfl ?_
      refine lv_ldc2 hx hb hown (hts _ kX7_token_3) dX7_token_177 ?_
      refine lv_ldc2 hx hb hown (hts _ kX7_token_5) dX7_token_180 ?_
      refine xSi0 (As := [.long ((r173).toInt64), .long (48 : Int64), .long (57 : Int64)]) (rest := []) ⟨hx, hb, hml, hown, hts⟩ (mtX7_in l ad dC dI cy  _  ((r173).toInt64) (48 : Int64) (57 : Int64) h) (va_cwS 3 hts gX7_token_X7_in rfl rfl rfl qX7_in.2 ⟨Nat.le_of_ble_eq_true rfl, Nat.le_of_ble_eq_true rfl⟩) hE hK hP hD hS hA [] rfl (by decide) rfl hl.1 rfl (Nat.le_of_ble_eq_true rfl) dX7_token_183 ⟨Nat.le_refl _, Nat.le_refl _⟩ (fun r183 H locs h hP hS => ?_)
      try dsimp only at h
      refine lv_if_eq (tgt := 240) hx hb dX7_token_186 (by decide) (fun c_1 => ?_) (fun c_1 => ?_)
      · replace h := h.1 c_1
        refine lv_aload_n hx hb dX7_token_240 rfl (lv_at hl 0 rfl) ?_
        refine lv_iload_n hx hb dX7_token_241 rfl (lv_at hl 1 rfl) ?_
        refine lv_bipush (v := 10) hx hb dX7_token_242 (by decide) ?_
        refine lv_icmp_le (tgt := 251) hx hb dX7_token_244 (by decide) (fun c_2 => ?_) (fun c_2 => ?_)
        · replace h := h.1 c_2
          refine lv_iconst (v := 3) hx hb dX7_token_251 (by decide) ?_
          exact C252 t_reached t_begin t_sort t_value t_word (3 : Int32) h _ _ _ (x_sub hP [0, 1] rfl) (hD.sub [0, 1] (by decide) rfl) hS (lv_sub hl [] rfl)
        · replace h := h.2 c_2
          refine lv_iconst (v := 1) hx hb dX7_token_247 (by decide) ?_
          refine lv_goto (tgt := 252) hx hb dX7_token_248 (by decide) ?_
          exact C252 t_reached t_begin t_sort t_value t_word (1 : Int32) h _ _ _ (x_sub hP [0, 1] rfl) (hD.sub [0, 1] (by decide) rfl) hS (lv_sub hl [] rfl)
      · replace h := h.2 c_1
        refine lv_aload_n hx hb dX7_token_189 rfl (lv_at hl 0 rfl) ?_
        refine lv_iload_n hx hb dX7_token_190 rfl (lv_at hl 1 rfl) ?_
        refine lv_bipush (v := 10) hx hb dX7_token_191 (by decide) ?_
        refine lv_icmp_ge (tgt := 217) hx hb dX7_token_193 (by decide) (fun c_3 => ?_) (fun c_3 => ?_)
        · replace h := h.1 c_3
          refine lv_aload_n hx hb dX7_token_217 rfl (lv_at hl 0 rfl) ?_
          refine va_get (D := (dC, dI)) (ci := 7) (v := .long t_value) (C := RX7) (T := TX7) (N := 41) hx hb hts iX7_token_X7 hown hK hP 0 rfl rfl 10 (Nat.le_of_ble_eq_true rfl) (hts _ kX7_token_1) (fun _ h9 => h9) rfl dX7_token_218 ?_
          exact C221 t_reached t_begin t_sort t_value t_word v2 t_value h _ _ _ (x_sub hP [0, 1] rfl) (hD.sub [0, 1] (by decide) rfl) hS (lv_sub hl [0, 1] rfl)
        · replace h := h.2 c_3
          refine lv_ldc2 hx hb hown (hts _ kX7_token_4) dX7_token_196 ?_
          refine lv_aload_n hx hb dX7_token_199 rfl (lv_at hl 0 rfl) ?_
          refine va_get (D := (dC, dI)) (ci := 7) (v := .long t_value) (C := RX7) (T := TX7) (N := 41) hx hb hts iX7_token_X7 hown hK hP 0 rfl rfl 10 (Nat.le_of_ble_eq_true rfl) (hts _ kX7_token_1) (fun _ h9 => h9) rfl dX7_token_200 ?_
          refine lv_lmul hx hb dX7_token_203 ?_
          refine lv_aload_n hx hb dX7_token_204 rfl (lv_at hl 0 rfl) ?_
          refine xVi0 (As := []) (rest := [.long ((10 : Int64) * t_value), .ref a_t]) ⟨hx, hb, hml, hown, hts⟩ (mtX7_see l ad dC dI cy a_t a_t_all a_t_text a_t_saved a_t_undone a_t_told a_t_orderOf a_t_placeOf a_t_w a_t_p a_t_setBits a_t_setWeight a_t_setProfit a_t_nextBits a_t_nextWeight a_t_nextProfit _ t_raised t_undos t_reached t_length t_begin t_sort t_value t_word t_wrongAt t_badAt t_bad t_toldWeight t_toldProfit t_many t_room t_breakAt t_breakWeight t_breakProfit t_from t_to t_made t_sets t_bestBits t_bestWeight t_bestProfit t_nexts t_text  h) (cwV 0 hts gX7_token_X7_see rfl rfl rfl qX7_see ⟨Nat.le_of_ble_eq_true rfl, Nat.le_of_ble_eq_true rfl⟩) hE hK hP hD hS hA 7 0 rfl rfl rfl [0, 1] rfl (by decide) rfl hl.1 rfl (Nat.le_of_ble_eq_true rfl) dX7_token_205 ⟨Nat.le_refl _, Nat.le_refl _⟩ (fun r205 H locs h hP hS => ?_)
          try dsimp only at h
          refine lv_i2l hx hb dX7_token_208 rfl ?_
          refine lv_ladd hx hb dX7_token_209 ?_
          refine lv_ldc2 hx hb hown (hts _ kX7_token_3) dX7_token_210 ?_
          refine lv_lsub hx hb dX7_token_213 ?_
          refine lv_goto (tgt := 221) hx hb dX7_token_214 (by decide) ?_
          exact C221 t_reached t_begin t_sort t_value t_word v2 ((((10 : Int64) * t_value) + (r205).toInt64) - (48 : Int64)) h _ _ _ (x_sub hP [0, 1] rfl) (hD.sub [0, 1] (by decide) rfl) hS (lv_sub hl [0, 1] rfl)
  have C142 : ∀ (t_reached t_begin t_sort : Int32) (t_value t_word k1 : Int64), wX7_token_142 t_length t_text post t_reached t_begin t_sort t_value t_word k1 → ∀ (H : Heap) (locs : List Loc) (ls : Array Slot), va_P (dC, dI) vwCl [(a_t, .inr (7, [.int t_raised, .ref a_t_all, .ref a_t_text, .ref a_t_saved, .ref a_t_undone, .int t_undos, .int t_reached, .int t_length, .int t_begin, .int t_sort, .long t_value, .long t_word, .int t_wrongAt, .int t_badAt, .int t_bad, .ref a_t_told, .long t_toldWeight, .long t_toldProfit, .int t_many, .long t_room, .ref a_t_orderOf, .ref a_t_placeOf, .ref a_t_w, .ref a_t_p, .int t_breakAt, .long t_breakWeight, .long t_breakProfit, .int t_from, .int t_to, .int t_made, .int t_sets, .ref a_t_setBits, .ref a_t_setWeight, .ref a_t_setProfit, .long t_bestBits, .long t_bestWeight, .long t_bestProfit, .int t_nexts, .ref a_t_nextBits, .ref a_t_nextWeight, .ref a_t_nextProfit])), (a_t_text, .inl (cy 2, 2400, .inl t_text))] H → va_D A [(a_t, .inr (7, [.int t_raised, .ref a_t_all, .ref a_t_text, .ref a_t_saved, .ref a_t_undone, .int t_undos, .int t_reached, .int t_length, .int t_begin, .int t_sort, .long t_value, .long t_word, .int t_wrongAt, .int t_badAt, .int t_bad, .ref a_t_told, .long t_toldWeight, .long t_toldProfit, .int t_many, .long t_room, .ref a_t_orderOf, .ref a_t_placeOf, .ref a_t_w, .ref a_t_p, .int t_breakAt, .long t_breakWeight, .long t_breakProfit, .int t_from, .int t_to, .int t_made, .int t_sets, .ref a_t_setBits, .ref a_t_setWeight, .ref a_t_setProfit, .long t_bestBits, .long t_bestWeight, .long t_bestProfit, .int t_nexts, .ref a_t_nextBits, .ref a_t_nextWeight, .ref a_t_nextProfit])), (a_t_text, .inl (cy 2, 2400, .inl t_text))] → va_S A s.heap H locs → lv_has ls 3 [(0, .ref a_t)] → W p l e (headSpec wsX7_token ({ frames := 1, cells := 0, slots := 0, locals := 25 } : Room)).room s m args below meth c H locs 0 0 Q (F0 m 142 ls [.long k1, .ref a_t]) := by
    intro t_reached t_begin t_sort t_value t_word k1 h H locs ls hP hD hS hl
    refine va_put (D := (dC, dI)) (ci := 7) (v := .long k1) (C := RX7) (T := TX7) (N := 41) hx hb hts iX7_token_X7 tyX7 tyX7_ok nmX7 hown hK hP hD hS 0 rfl rfl 11 (Nat.le_of_ble_eq_true rfl) (hts _ kX7_token_6) (fun _ h9 => h9) rfl (tyX7_ok 11 (Nat.le_of_ble_eq_true rfl)) rfl rfl (Nat.le_of_ble_eq_true rfl) dX7_token_142 (fun H locs hP hD hS => ?_)
    have hP : va_P (dC, dI) vwCl [(a_t, .inr (7, [.int t_raised, .ref a_t_all, .ref a_t_text, .ref a_t_saved, .ref a_t_undone, .int t_undos, .int t_reached, .int t_length, .int t_begin, .int t_sort, .long t_value, .long k1, .int t_wrongAt, .int t_badAt, .int t_bad, .ref a_t_told, .long t_toldWeight, .long t_toldProfit, .int t_many, .long t_room, .ref a_t_orderOf, .ref a_t_placeOf, .ref a_t_w, .ref a_t_p, .int t_breakAt, .long t_breakWeight, .long t_breakProfit, .int t_from, .int t_to, .int t_made, .int t_sets, .ref a_t_setBits, .ref a_t_setWeight, .ref a_t_setProfit, .long t_bestBits, .long t_bestWeight, .long t_bestProfit, .int t_nexts, .ref a_t_nextBits, .ref a_t_nextWeight, .ref a_t_nextProfit])), (a_t_text, .inl (cy 2, 2400, .inl t_text))] H := hP
    have hD : va_D A [(a_t, .inr (7, [.int t_raised, .ref a_t_all, .ref a_t_text, .ref a_t_saved, .ref a_t_undone, .int t_undos, .int t_reached, .int t_length, .int t_begin, .int t_sort, .long t_value, .long k1, .int t_wrongAt, .int t_badAt, .int t_bad, .ref a_t_told, .long t_toldWeight, .long t_toldProfit, .int t_many, .long t_room, .ref a_t_orderOf, .ref a_t_placeOf, .ref a_t_w, .ref a_t_p, .int t_breakAt, .long t_breakWeight, .long t_breakProfit, .int t_from, .int t_to, .int t_made, .int t_sets, .ref a_t_setBits, .ref a_t_setWeight, .ref a_t_setProfit, .long t_bestBits, .long t_bestWeight, .long t_bestProfit, .int t_nexts, .ref a_t_nextBits, .ref a_t_nextWeight, .ref a_t_nextProfit])), (a_t_text, .inl (cy 2, 2400, .inl t_text))] := hD
    refine lv_aload_n hx hb dX7_token_145 rfl (lv_at hl 0 rfl) ?_
    refine lv_iconst (v := 2) hx hb dX7_token_146 (by decide) ?_
    refine va_put (D := (dC, dI)) (ci := 7) (v := .int (2 : Int32)) (C := RX7) (T := TX7) (N := 41) hx hb hts iX7_token_X7 tyX7 tyX7_ok nmX7 hown hK hP hD hS 0 rfl rfl 9 (Nat.le_of_ble_eq_true rfl) (hts _ kX7_token_0) (fun _ h9 => h9) rfl (tyX7_ok 9 (Nat.le_of_ble_eq_true rfl)) rfl rfl (Nat.le_of_ble_eq_true rfl) dX7_token_147 (fun H locs hP hD hS => ?_)
    have hP : va_P (dC, dI) vwCl [(a_t, .inr (7, [.int t_raised, .ref a_t_all, .ref a_t_text, .ref a_t_saved, .ref a_t_undone, .int t_undos, .int t_reached, .int t_length, .int t_begin, .int (2 : Int32), .long t_value, .long k1, .int t_wrongAt, .int t_badAt, .int t_bad, .ref a_t_told, .long t_toldWeight, .long t_toldProfit, .int t_many, .long t_room, .ref a_t_orderOf, .ref a_t_placeOf, .ref a_t_w, .ref a_t_p, .int t_breakAt, .long t_breakWeight, .long t_breakProfit, .int t_from, .int t_to, .int t_made, .int t_sets, .ref a_t_setBits, .ref a_t_setWeight, .ref a_t_setProfit, .long t_bestBits, .long t_bestWeight, .long t_bestProfit, .int t_nexts, .ref a_t_nextBits, .ref a_t_nextWeight, .ref a_t_nextProfit])), (a_t_text, .inl (cy 2, 2400, .inl t_text))] H := hP
    have hD : va_D A [(a_t, .inr (7, [.int t_raised, .ref a_t_all, .ref a_t_text, .ref a_t_saved, .ref a_t_undone, .int t_undos, .int t_reached, .int t_length, .int t_begin, .int (2 : Int32), .long t_value, .long k1, .int t_wrongAt, .int t_badAt, .int t_bad, .ref a_t_told, .long t_toldWeight, .long t_toldProfit, .int t_many, .long t_room, .ref a_t_orderOf, .ref a_t_placeOf, .ref a_t_w, .ref a_t_p, .int t_breakAt, .long t_breakWeight, .long t_breakProfit, .int t_from, .int t_to, .int t_made, .int t_sets, .ref a_t_setBits, .ref a_t_setWeight, .ref a_t_setProfit, .long t_bestBits, .long t_bestWeight, .long t_bestProfit, .int t_nexts, .ref a_t_nextBits, .ref a_t_nextWeight, .ref a_t_nextProfit])), (a_t_text, .inl (cy 2, 2400, .inl t_text))] := hD
    refine lv_goto (tgt := 283) hx hb dX7_token_150 (by decide) ?_
    subst hQ
    exact W.vret hx hb hr (fun t ht hW => ⟨⟨(t_reached, t_begin, (2 : Int32), t_value, k1), rfl, h, x_end (w1 := [(a_t, .inr (7, [.int t_raised, .ref a_t_all, .ref a_t_text, .ref a_t_saved, .ref a_t_undone, .int t_undos, .int t_reached, .int t_length, .int t_begin, .int (2 : Int32), .long t_value, .long k1, .int t_wrongAt, .int t_badAt, .int t_bad, .ref a_t_told, .long t_toldWeight, .long t_toldProfit, .int t_many, .long t_room, .ref a_t_orderOf, .ref a_t_placeOf, .ref a_t_w, .ref a_t_p, .int t_breakAt, .long t_breakWeight, .long t_breakProfit, .int t_from, .int t_to, .int t_made, .int t_sets, .ref a_t_setBits, .ref a_t_setWeight, .ref a_t_setProfit, .long t_bestBits, .long t_bestWeight, .long t_bestProfit, .int t_nexts, .ref a_t_nextBits, .ref a_t_nextWeight, .ref a_t_nextProfit])), (a_t_text, .inl (cy 2, 2400, .inl t_text))]) hP hD hK [0, 1] rfl (by decide) rfl ht hW⟩, hS.F ht⟩) hS.2.2 dX7_token_283
  have L77 : ∀ n : Nat, ∀ (t_reached t_begin t_sort : Int32) (t_value t_word : Int64) (v2 : Int32), wX7_token_77 t_length t_text post n t_reached t_begin t_sort t_value t_word v2 → ∀ (H : Heap) (locs : List Loc) (ls : Array Slot), va_P (dC, dI) vwCl [(a_t, .inr (7, [.int t_raised, .ref a_t_all, .ref a_t_text, .ref a_t_saved, .ref a_t_undone, .int t_undos, .int t_reached, .int t_length, .int t_begin, .int t_sort, .long t_value, .long t_word, .int t_wrongAt, .int t_badAt, .int t_bad, .ref a_t_told, .long t_toldWeight, .long t_toldProfit, .int t_many, .long t_room, .ref a_t_orderOf, .ref a_t_placeOf, .ref a_t_w, .ref a_t_p, .int t_breakAt, .long t_breakWeight, .long t_breakProfit, .int t_from, .int t_to, .int t_made, .int t_sets, .ref a_t_setBits, .ref a_t_setWeight, .ref a_t_setProfit, .long t_bestBits, .long t_bestWeight, .long t_bestProfit, .int t_nexts, .ref a_t_nextBits, .ref a_t_nextWeight, .ref a_t_nextProfit])), (a_t_text, .inl (cy 2, 2400, .inl t_text))] H → va_D A [(a_t, .inr (7, [.int t_raised, .ref a_t_all, .ref a_t_text, .ref a_t_saved, .ref a_t_undone, .int t_undos, .int t_reached, .int t_length, .int t_begin, .int t_sort, .long t_value, .long t_word, .int t_wrongAt, .int t_badAt, .int t_bad, .ref a_t_told, .long t_toldWeight, .long t_toldProfit, .int t_many, .long t_room, .ref a_t_orderOf, .ref a_t_placeOf, .ref a_t_w, .ref a_t_p, .int t_breakAt, .long t_breakWeight, .long t_breakProfit, .int t_from, .int t_to, .int t_made, .int t_sets, .ref a_t_setBits, .ref a_t_setWeight, .ref a_t_setProfit, .long t_bestBits, .long t_bestWeight, .long t_bestProfit, .int t_nexts, .ref a_t_nextBits, .ref a_t_nextWeight, .ref a_t_nextProfit])), (a_t_text, .inl (cy 2, 2400, .inl t_text))] → va_S A s.heap H locs → lv_has ls 3 [(0, .ref a_t), (2, .int v2)] → W p l e (headSpec wsX7_token ({ frames := 1, cells := 0, slots := 0, locals := 25 } : Room)).room s m args below meth c H locs 0 0 Q (F0 m 77 ls []) := by
    intro n
    induction n with
    | zero => intro t_reached t_begin t_sort t_value t_word v2 h; exact False.elim h
    | succ n77 ih77 =>
      intro t_reached t_begin t_sort t_value t_word v2 h H locs ls hP hD hS hl
      replace h : wX7_token_77_b t_length t_text post (wX7_token_77 t_length t_text post n77) t_reached t_begin t_sort t_value t_word v2 := h
      refine lv_aload_n hx hb dX7_token_77 rfl (lv_at hl 0 rfl) ?_
      refine xVi0 (As := []) (rest := []) ⟨hx, hb, hml, hown, hts⟩ (mtX7_see l ad dC dI cy a_t a_t_all a_t_text a_t_saved a_t_undone a_t_told a_t_orderOf a_t_placeOf a_t_w a_t_p a_t_setBits a_t_setWeight a_t_setProfit a_t_nextBits a_t_nextWeight a_t_nextProfit _ t_raised t_undos t_reached t_length t_begin t_sort t_value t_word t_wrongAt t_badAt t_bad t_toldWeight t_toldProfit t_many t_room t_breakAt t_breakWeight t_breakProfit t_from t_to t_made t_sets t_bestBits t_bestWeight t_bestProfit t_nexts t_text  h) (cwV 0 hts gX7_token_X7_see rfl rfl rfl qX7_see ⟨Nat.le_of_ble_eq_true rfl, Nat.le_of_ble_eq_true rfl⟩) hE hK hP hD hS hA 7 0 rfl rfl rfl [0, 1] rfl (by decide) rfl hl.1 rfl (Nat.le_of_ble_eq_true rfl) dX7_token_78 ⟨Nat.le_refl _, Nat.le_refl _⟩ (fun r78 H locs h hP hS => ?_)
      try dsimp only at h
      refine lv_i2l hx hb dX7_token_81 rfl ?_
      refine lv_ldc2 hx hb hown (hts _ kX7_token_7) dX7_token_82 ?_
      refine lv_ldc2 hx hb hown (hts _ kX7_token_8) dX7_token_85 ?_
      refine xSi0 (As := [.long ((r78).toInt64), .long (97 : Int64), .long (122 : Int64)]) (rest := []) ⟨hx, hb, hml, hown, hts⟩ (mtX7_in l ad dC dI cy  _  ((r78).toInt64) (97 : Int64) (122 : Int64) h) (va_cwS 3 hts gX7_token_X7_in rfl rfl rfl qX7_in.2 ⟨Nat.le_of_ble_eq_true rfl, Nat.le_of_ble_eq_true rfl⟩) hE hK hP hD hS hA [] rfl (by decide) rfl hl.1 rfl (Nat.le_of_ble_eq_true rfl) dX7_token_88 ⟨Nat.le_refl _, Nat.le_refl _⟩ (fun r88 H locs h hP hS => ?_)
      try dsimp only at h
      refine lv_if_eq (tgt := 127) hx hb dX7_token_91 (by decide) (fun c_4 => ?_) (fun c_4 => ?_)
      · replace h := h.1 c_4
        refine lv_aload_n hx hb dX7_token_127 rfl (lv_at hl 0 rfl) ?_
        refine lv_iload_n hx hb dX7_token_128 rfl (lv_at hl 1 rfl) ?_
        refine lv_bipush (v := 8) hx hb dX7_token_129 (by decide) ?_
        refine lv_icmp_le (tgt := 138) hx hb dX7_token_131 (by decide) (fun c_5 => ?_) (fun c_5 => ?_)
        · replace h := h.1 c_5
          refine lv_aload_n hx hb dX7_token_138 rfl (lv_at hl 0 rfl) ?_
          refine va_get (D := (dC, dI)) (ci := 7) (v := .long t_word) (C := RX7) (T := TX7) (N := 41) hx hb hts iX7_token_X7 hown hK hP 0 rfl rfl 11 (Nat.le_of_ble_eq_true rfl) (hts _ kX7_token_6) (fun _ h9 => h9) rfl dX7_token_139 ?_
          exact C142 t_reached t_begin t_sort t_value t_word t_word h _ _ _ (x_sub hP [0, 1] rfl) (hD.sub [0, 1] (by decide) rfl) hS (lv_sub hl [0] rfl)
        · replace h := h.2 c_5
          refine lv_lconst (v := 0) hx hb dX7_token_134 (by decide) ?_
          refine lv_goto (tgt := 142) hx hb dX7_token_135 (by decide) ?_
          exact C142 t_reached t_begin t_sort t_value t_word (0 : Int64) h _ _ _ (x_sub hP [0, 1] rfl) (hD.sub [0, 1] (by decide) rfl) hS (lv_sub hl [0] rfl)
      · replace h := h.2 c_4
        refine lv_aload_n hx hb dX7_token_94 rfl (lv_at hl 0 rfl) ?_
        refine lv_aload_n hx hb dX7_token_95 rfl (lv_at hl 0 rfl) ?_
        refine va_get (D := (dC, dI)) (ci := 7) (v := .long t_word) (C := RX7) (T := TX7) (N := 41) hx hb hts iX7_token_X7 hown hK hP 0 rfl rfl 11 (Nat.le_of_ble_eq_true rfl) (hts _ kX7_token_6) (fun _ h9 => h9) rfl dX7_token_96 ?_
        refine lv_bipush (v := 8) hx hb dX7_token_99 (by decide) ?_
        refine lv_lshl hx hb dX7_token_101 rfl ?_
        refine lv_aload_n hx hb dX7_token_102 rfl (lv_at hl 0 rfl) ?_
        refine xVi0 (As := []) (rest := [.long (t_word <<< (((8 : Int32)).toInt64 &&& 63)), .ref a_t]) ⟨hx, hb, hml, hown, hts⟩ (mtX7_see l ad dC dI cy a_t a_t_all a_t_text a_t_saved a_t_undone a_t_told a_t_orderOf a_t_placeOf a_t_w a_t_p a_t_setBits a_t_setWeight a_t_setProfit a_t_nextBits a_t_nextWeight a_t_nextProfit _ t_raised t_undos t_reached t_length t_begin t_sort t_value t_word t_wrongAt t_badAt t_bad t_toldWeight t_toldProfit t_many t_room t_breakAt t_breakWeight t_breakProfit t_from t_to t_made t_sets t_bestBits t_bestWeight t_bestProfit t_nexts t_text  h) (cwV 0 hts gX7_token_X7_see rfl rfl rfl qX7_see ⟨Nat.le_of_ble_eq_true rfl, Nat.le_of_ble_eq_true rfl⟩) hE hK hP hD hS hA 7 0 rfl rfl rfl [0, 1] rfl (by decide) rfl hl.1 rfl (Nat.le_of_ble_eq_true rfl) dX7_token_103 ⟨Nat.le_refl _, Nat.le_refl _⟩ (fun r103 H locs h hP hS => ?_)
        try dsimp only at h
        refine lv_i2l hx hb dX7_token_106 rfl ?_
        refine lv_lor hx hb dX7_token_107 ?_
        refine va_put (D := (dC, dI)) (ci := 7) (v := .long ((t_word <<< (((8 : Int32)).toInt64 &&& 63)) ||| (r103).toInt64)) (C := RX7) (T := TX7) (N := 41) hx hb hts iX7_token_X7 tyX7 tyX7_ok nmX7 hown hK hP hD hS 0 rfl rfl 11 (Nat.le_of_ble_eq_true rfl) (hts _ kX7_token_6) (fun _ h9 => h9) rfl (tyX7_ok 11 (Nat.le_of_ble_eq_true rfl)) rfl rfl (Nat.le_of_ble_eq_true rfl) dX7_token_108 (fun H locs hP hD hS => ?_)
        have hP : va_P (dC, dI) vwCl [(a_t, .inr (7, [.int t_raised, .ref a_t_all, .ref a_t_text, .ref a_t_saved, .ref a_t_undone, .int t_undos, .int t_reached, .int t_length, .int t_begin, .int t_sort, .long t_value, .long ((t_word <<< (((8 : Int32)).toInt64 &&& 63)) ||| (r103).toInt64), .int t_wrongAt, .int t_badAt, .int t_bad, .ref a_t_told, .long t_toldWeight, .long t_toldProfit, .int t_many, .long t_room, .ref a_t_orderOf, .ref a_t_placeOf, .ref a_t_w, .ref a_t_p, .int t_breakAt, .long t_breakWeight, .long t_breakProfit, .int t_from, .int t_to, .int t_made, .int t_sets, .ref a_t_setBits, .ref a_t_setWeight, .ref a_t_setProfit, .long t_bestBits, .long t_bestWeight, .long t_bestProfit, .int t_nexts, .ref a_t_nextBits, .ref a_t_nextWeight, .ref a_t_nextProfit])), (a_t_text, .inl (cy 2, 2400, .inl t_text))] H := hP
        have hD : va_D A [(a_t, .inr (7, [.int t_raised, .ref a_t_all, .ref a_t_text, .ref a_t_saved, .ref a_t_undone, .int t_undos, .int t_reached, .int t_length, .int t_begin, .int t_sort, .long t_value, .long ((t_word <<< (((8 : Int32)).toInt64 &&& 63)) ||| (r103).toInt64), .int t_wrongAt, .int t_badAt, .int t_bad, .ref a_t_told, .long t_toldWeight, .long t_toldProfit, .int t_many, .long t_room, .ref a_t_orderOf, .ref a_t_placeOf, .ref a_t_w, .ref a_t_p, .int t_breakAt, .long t_breakWeight, .long t_breakProfit, .int t_from, .int t_to, .int t_made, .int t_sets, .ref a_t_setBits, .ref a_t_setWeight, .ref a_t_setProfit, .long t_bestBits, .long t_bestWeight, .long t_bestProfit, .int t_nexts, .ref a_t_nextBits, .ref a_t_nextWeight, .ref a_t_nextProfit])), (a_t_text, .inl (cy 2, 2400, .inl t_text))] := hD
        refine lv_aload_n hx hb dX7_token_111 rfl (lv_at hl 0 rfl) ?_
        refine lv_dup hx hb dX7_token_112 rfl ?_
        refine va_get (D := (dC, dI)) (ci := 7) (v := .int t_reached) (C := RX7) (T := TX7) (N := 41) hx hb hts iX7_token_X7 hown hK hP 0 rfl rfl 6 (Nat.le_of_ble_eq_true rfl) (hts _ kX7_token_2) (fun _ h9 => h9) rfl dX7_token_113 ?_
        refine lv_iconst (v := 1) hx hb dX7_token_116 (by decide) ?_
        refine lv_iadd hx hb dX7_token_117 ?_
        refine va_put (D := (dC, dI)) (ci := 7) (v := .int (t_reached + (1 : Int32))) (C := RX7) (T := TX7) (N := 41) hx hb hts iX7_token_X7 tyX7 tyX7_ok nmX7 hown hK hP hD hS 0 rfl rfl 6 (Nat.le_of_ble_eq_true rfl) (hts _ kX7_token_2) (fun _ h9 => h9) rfl (tyX7_ok 6 (Nat.le_of_ble_eq_true rfl)) rfl rfl (Nat.le_of_ble_eq_true rfl) dX7_token_118 (fun H locs hP hD hS => ?_)
        have hP : va_P (dC, dI) vwCl [(a_t, .inr (7, [.int t_raised, .ref a_t_all, .ref a_t_text, .ref a_t_saved, .ref a_t_undone, .int t_undos, .int (t_reached + (1 : Int32)), .int t_length, .int t_begin, .int t_sort, .long t_value, .long ((t_word <<< (((8 : Int32)).toInt64 &&& 63)) ||| (r103).toInt64), .int t_wrongAt, .int t_badAt, .int t_bad, .ref a_t_told, .long t_toldWeight, .long t_toldProfit, .int t_many, .long t_room, .ref a_t_orderOf, .ref a_t_placeOf, .ref a_t_w, .ref a_t_p, .int t_breakAt, .long t_breakWeight, .long t_breakProfit, .int t_from, .int t_to, .int t_made, .int t_sets, .ref a_t_setBits, .ref a_t_setWeight, .ref a_t_setProfit, .long t_bestBits, .long t_bestWeight, .long t_bestProfit, .int t_nexts, .ref a_t_nextBits, .ref a_t_nextWeight, .ref a_t_nextProfit])), (a_t_text, .inl (cy 2, 2400, .inl t_text))] H := hP
        have hD : va_D A [(a_t, .inr (7, [.int t_raised, .ref a_t_all, .ref a_t_text, .ref a_t_saved, .ref a_t_undone, .int t_undos, .int (t_reached + (1 : Int32)), .int t_length, .int t_begin, .int t_sort, .long t_value, .long ((t_word <<< (((8 : Int32)).toInt64 &&& 63)) ||| (r103).toInt64), .int t_wrongAt, .int t_badAt, .int t_bad, .ref a_t_told, .long t_toldWeight, .long t_toldProfit, .int t_many, .long t_room, .ref a_t_orderOf, .ref a_t_placeOf, .ref a_t_w, .ref a_t_p, .int t_breakAt, .long t_breakWeight, .long t_breakProfit, .int t_from, .int t_to, .int t_made, .int t_sets, .ref a_t_setBits, .ref a_t_setWeight, .ref a_t_setProfit, .long t_bestBits, .long t_bestWeight, .long t_bestProfit, .int t_nexts, .ref a_t_nextBits, .ref a_t_nextWeight, .ref a_t_nextProfit])), (a_t_text, .inl (cy 2, 2400, .inl t_text))] := hD
        refine lv_iinc (v := (v2 + (1 : Int32))) (lv' := [(2, .int (v2 + (1 : Int32))), (0, .ref a_t)]) hx hb dX7_token_121 hl (k := 1) rfl rfl (by decide) rfl (fun ls hl => ?_)
        refine lv_goto (tgt := 77) hx hb dX7_token_124 (by decide) ?_
        exact ih77 (t_reached + (1 : Int32)) t_begin t_sort t_value ((t_word <<< (((8 : Int32)).toInt64 &&& 63)) ||| (r103).toInt64) (v2 + (1 : Int32)) h _ _ _ (x_sub hP [0, 1] rfl) (hD.sub [0, 1] (by decide) rfl) hS (lv_sub hl [1, 0] rfl)
  have L0 : ∀ n : Nat, ∀ (t_reached t_begin t_sort : Int32) (t_value t_word : Int64), wX7_token_0 t_length t_text post n t_reached t_begin t_sort t_value t_word → ∀ (H : Heap) (locs : List Loc) (ls : Array Slot), va_P (dC, dI) vwCl [(a_t, .inr (7, [.int t_raised, .ref a_t_all, .ref a_t_text, .ref a_t_saved, .ref a_t_undone, .int t_undos, .int t_reached, .int t_length, .int t_begin, .int t_sort, .long t_value, .long t_word, .int t_wrongAt, .int t_badAt, .int t_bad, .ref a_t_told, .long t_toldWeight, .long t_toldProfit, .int t_many, .long t_room, .ref a_t_orderOf, .ref a_t_placeOf, .ref a_t_w, .ref a_t_p, .int t_breakAt, .long t_breakWeight, .long t_breakProfit, .int t_from, .int t_to, .int t_made, .int t_sets, .ref a_t_setBits, .ref a_t_setWeight, .ref a_t_setProfit, .long t_bestBits, .long t_bestWeight, .long t_bestProfit, .int t_nexts, .ref a_t_nextBits, .ref a_t_nextWeight, .ref a_t_nextProfit])), (a_t_text, .inl (cy 2, 2400, .inl t_text))] H → va_D A [(a_t, .inr (7, [.int t_raised, .ref a_t_all, .ref a_t_text, .ref a_t_saved, .ref a_t_undone, .int t_undos, .int t_reached, .int t_length, .int t_begin, .int t_sort, .long t_value, .long t_word, .int t_wrongAt, .int t_badAt, .int t_bad, .ref a_t_told, .long t_toldWeight, .long t_toldProfit, .int t_many, .long t_room, .ref a_t_orderOf, .ref a_t_placeOf, .ref a_t_w, .ref a_t_p, .int t_breakAt, .long t_breakWeight, .long t_breakProfit, .int t_from, .int t_to, .int t_made, .int t_sets, .ref a_t_setBits, .ref a_t_setWeight, .ref a_t_setProfit, .long t_bestBits, .long t_bestWeight, .long t_bestProfit, .int t_nexts, .ref a_t_nextBits, .ref a_t_nextWeight, .ref a_t_nextProfit])), (a_t_text, .inl (cy 2, 2400, .inl t_text))] → va_S A s.heap H locs → lv_has ls 3 [(0, .ref a_t)] → W p l e (headSpec wsX7_token ({ frames := 1, cells := 0, slots := 0, locals := 25 } : Room)).room s m args below meth c H locs 0 0 Q (F0 m 0 ls []) := by
    intro n
    induction n with
    | zero => intro t_reached t_begin t_sort t_value t_word h; exact False.elim h
    | succ n0 ih0 =>
      have C18 : ∀ (t_reached t_begin t_sort : Int32) (t_value t_word : Int64), wX7_token_18 t_length t_text (wX7_token_0 t_length t_text post n0) post t_reached t_begin t_sort t_value t_word → ∀ (H : Heap) (locs : List Loc) (ls : Array Slot), va_P (dC, dI) vwCl [(a_t, .inr (7, [.int t_raised, .ref a_t_all, .ref a_t_text, .ref a_t_saved, .ref a_t_undone, .int t_undos, .int t_reached, .int t_length, .int t_begin, .int t_sort, .long t_value, .long t_word, .int t_wrongAt, .int t_badAt, .int t_bad, .ref a_t_told, .long t_toldWeight, .long t_toldProfit, .int t_many, .long t_room, .ref a_t_orderOf, .ref a_t_placeOf, .ref a_t_w, .ref a_t_p, .int t_breakAt, .long t_breakWeight, .long t_breakProfit, .int t_from, .int t_to, .int t_made, .int t_sets, .ref a_t_setBits, .ref a_t_setWeight, .ref a_t_setProfit, .long t_bestBits, .long t_bestWeight, .long t_bestProfit, .int t_nexts, .ref a_t_nextBits, .ref a_t_nextWeight, .ref a_t_nextProfit])), (a_t_text, .inl (cy 2, 2400, .inl t_text))] H → va_D A [(a_t, .inr (7, [.int t_raised, .ref a_t_all, .ref a_t_text, .ref a_t_saved, .ref a_t_undone, .int t_undos, .int t_reached, .int t_length, .int t_begin, .int t_sort, .long t_value, .long t_word, .int t_wrongAt, .int t_badAt, .int t_bad, .ref a_t_told, .long t_toldWeight, .long t_toldProfit, .int t_many, .long t_room, .ref a_t_orderOf, .ref a_t_placeOf, .ref a_t_w, .ref a_t_p, .int t_breakAt, .long t_breakWeight, .long t_breakProfit, .int t_from, .int t_to, .int t_made, .int t_sets, .ref a_t_setBits, .ref a_t_setWeight, .ref a_t_setProfit, .long t_bestBits, .long t_bestWeight, .long t_bestProfit, .int t_nexts, .ref a_t_nextBits, .ref a_t_nextWeight, .ref a_t_nextProfit])), (a_t_text, .inl (cy 2, 2400, .inl t_text))] → va_S A s.heap H locs → lv_has ls 3 [(0, .ref a_t)] → W p l e (headSpec wsX7_token ({ frames := 1, cells := 0, slots := 0, locals := 25 } : Room)).room s m args below meth c H locs 0 0 Q (F0 m 18 ls []) := by
        intro t_reached t_begin t_sort t_value t_word h H locs ls hP hD hS hl
        refine lv_aload_n hx hb dX7_token_18 rfl (lv_at hl 0 rfl) ?_
        refine lv_dup hx hb dX7_token_19 rfl ?_
        refine va_get (D := (dC, dI)) (ci := 7) (v := .int t_reached) (C := RX7) (T := TX7) (N := 41) hx hb hts iX7_token_X7 hown hK hP 0 rfl rfl 6 (Nat.le_of_ble_eq_true rfl) (hts _ kX7_token_2) (fun _ h9 => h9) rfl dX7_token_20 ?_
        refine lv_iconst (v := 1) hx hb dX7_token_23 (by decide) ?_
        refine lv_iadd hx hb dX7_token_24 ?_
        refine va_put (D := (dC, dI)) (ci := 7) (v := .int (t_reached + (1 : Int32))) (C := RX7) (T := TX7) (N := 41) hx hb hts iX7_token_X7 tyX7 tyX7_ok nmX7 hown hK hP hD hS 0 rfl rfl 6 (Nat.le_of_ble_eq_true rfl) (hts _ kX7_token_2) (fun _ h9 => h9) rfl (tyX7_ok 6 (Nat.le_of_ble_eq_true rfl)) rfl rfl (Nat.le_of_ble_eq_true rfl) dX7_token_25 (fun H locs hP hD hS => ?_)
        have hP : va_P (dC, dI) vwCl [(a_t, .inr (7, [.int t_raised, .ref a_t_all, .ref a_t_text, .ref a_t_saved, .ref a_t_undone, .int t_undos, .int (t_reached + (1 : Int32)), .int t_length, .int t_begin, .int t_sort, .long t_value, .long t_word, .int t_wrongAt, .int t_badAt, .int t_bad, .ref a_t_told, .long t_toldWeight, .long t_toldProfit, .int t_many, .long t_room, .ref a_t_orderOf, .ref a_t_placeOf, .ref a_t_w, .ref a_t_p, .int t_breakAt, .long t_breakWeight, .long t_breakProfit, .int t_from, .int t_to, .int t_made, .int t_sets, .ref a_t_setBits, .ref a_t_setWeight, .ref a_t_setProfit, .long t_bestBits, .long t_bestWeight, .long t_bestProfit, .int t_nexts, .ref a_t_nextBits, .ref a_t_nextWeight, .ref a_t_nextProfit])), (a_t_text, .inl (cy 2, 2400, .inl t_text))] H := hP
        have hD : va_D A [(a_t, .inr (7, [.int t_raised, .ref a_t_all, .ref a_t_text, .ref a_t_saved, .ref a_t_undone, .int t_undos, .int (t_reached + (1 : Int32)), .int t_length, .int t_begin, .int t_sort, .long t_value, .long t_word, .int t_wrongAt, .int t_badAt, .int t_bad, .ref a_t_told, .long t_toldWeight, .long t_toldProfit, .int t_many, .long t_room, .ref a_t_orderOf, .ref a_t_placeOf, .ref a_t_w, .ref a_t_p, .int t_breakAt, .long t_breakWeight, .long t_breakProfit, .int t_from, .int t_to, .int t_made, .int t_sets, .ref a_t_setBits, .ref a_t_setWeight, .ref a_t_setProfit, .long t_bestBits, .long t_bestWeight, .long t_bestProfit, .int t_nexts, .ref a_t_nextBits, .ref a_t_nextWeight, .ref a_t_nextProfit])), (a_t_text, .inl (cy 2, 2400, .inl t_text))] := hD
        refine lv_goto (tgt := 0) hx hb dX7_token_28 (by decide) ?_
        exact ih0 (t_reached + (1 : Int32)) t_begin t_sort t_value t_word h _ _ _ (x_sub hP [0, 1] rfl) (hD.sub [0, 1] (by decide) rfl) hS (lv_sub hl [0] rfl)
      intro t_reached t_begin t_sort t_value t_word h H locs ls hP hD hS hl
      replace h : wX7_token_0_b t_length t_text post (wX7_token_0 t_length t_text post n0) t_reached t_begin t_sort t_value t_word := h
      refine lv_aload_n hx hb dX7_token_0 rfl (lv_at hl 0 rfl) ?_
      refine xVi0 (As := []) (rest := []) ⟨hx, hb, hml, hown, hts⟩ (mtX7_see l ad dC dI cy a_t a_t_all a_t_text a_t_saved a_t_undone a_t_told a_t_orderOf a_t_placeOf a_t_w a_t_p a_t_setBits a_t_setWeight a_t_setProfit a_t_nextBits a_t_nextWeight a_t_nextProfit _ t_raised t_undos t_reached t_length t_begin t_sort t_value t_word t_wrongAt t_badAt t_bad t_toldWeight t_toldProfit t_many t_room t_breakAt t_breakWeight t_breakProfit t_from t_to t_made t_sets t_bestBits t_bestWeight t_bestProfit t_nexts t_text  h) (cwV 0 hts gX7_token_X7_see rfl rfl rfl qX7_see ⟨Nat.le_of_ble_eq_true rfl, Nat.le_of_ble_eq_true rfl⟩) hE hK hP hD hS hA 7 0 rfl rfl rfl [0, 1] rfl (by decide) rfl hl.1 rfl (Nat.le_of_ble_eq_true rfl) dX7_token_1 ⟨Nat.le_refl _, Nat.le_refl _⟩ (fun r1 H locs h hP hS => ?_)
      try dsimp only at h
      refine lv_bipush (v := 10) hx hb dX7_token_4 (by decide) ?_
      refine lv_icmp_eq (tgt := 18) hx hb dX7_token_6 (by decide) (fun c_6 => ?_) (fun c_6 => ?_)
      · replace h := h.1 c_6
        exact C18 t_reached t_begin t_sort t_value t_word h _ _ _ (x_sub hP [0, 1] rfl) (hD.sub [0, 1] (by decide) rfl) hS (lv_sub hl [0] rfl)
      · replace h := h.2 c_6
        refine lv_aload_n hx hb dX7_token_9 rfl (lv_at hl 0 rfl) ?_
        refine xVi0 (As := []) (rest := []) ⟨hx, hb, hml, hown, hts⟩ (mtX7_see l ad dC dI cy a_t a_t_all a_t_text a_t_saved a_t_undone a_t_told a_t_orderOf a_t_placeOf a_t_w a_t_p a_t_setBits a_t_setWeight a_t_setProfit a_t_nextBits a_t_nextWeight a_t_nextProfit _ t_raised t_undos t_reached t_length t_begin t_sort t_value t_word t_wrongAt t_badAt t_bad t_toldWeight t_toldProfit t_many t_room t_breakAt t_breakWeight t_breakProfit t_from t_to t_made t_sets t_bestBits t_bestWeight t_bestProfit t_nexts t_text  h) (cwV 0 hts gX7_token_X7_see rfl rfl rfl qX7_see ⟨Nat.le_of_ble_eq_true rfl, Nat.le_of_ble_eq_true rfl⟩) hE hK hP hD hS hA 7 0 rfl rfl rfl [0, 1] rfl (by decide) rfl hl.1 rfl (Nat.le_of_ble_eq_true rfl) dX7_token_10 ⟨Nat.le_refl _, Nat.le_refl _⟩ (fun r10 H locs h hP hS => ?_)
        try dsimp only at h
        refine lv_bipush (v := 32) hx hb dX7_token_13 (by decide) ?_
        refine lv_icmp_ne (tgt := 31) hx hb dX7_token_15 (by decide) (fun c_7 => ?_) (fun c_7 => ?_)
        · replace h := h.2 c_7
          refine lv_aload_n hx hb dX7_token_31 rfl (lv_at hl 0 rfl) ?_
          refine lv_aload_n hx hb dX7_token_32 rfl (lv_at hl 0 rfl) ?_
          refine va_get (D := (dC, dI)) (ci := 7) (v := .int t_reached) (C := RX7) (T := TX7) (N := 41) hx hb hts iX7_token_X7 hown hK hP 0 rfl rfl 6 (Nat.le_of_ble_eq_true rfl) (hts _ kX7_token_2) (fun _ h9 => h9) rfl dX7_token_33 ?_
          refine va_put (D := (dC, dI)) (ci := 7) (v := .int t_reached) (C := RX7) (T := TX7) (N := 41) hx hb hts iX7_token_X7 tyX7 tyX7_ok nmX7 hown hK hP hD hS 0 rfl rfl 8 (Nat.le_of_ble_eq_true rfl) (hts _ kX7_token_9) (fun _ h9 => h9) rfl (tyX7_ok 8 (Nat.le_of_ble_eq_true rfl)) rfl rfl (Nat.le_of_ble_eq_true rfl) dX7_token_36 (fun H locs hP hD hS => ?_)
          have hP : va_P (dC, dI) vwCl [(a_t, .inr (7, [.int t_raised, .ref a_t_all, .ref a_t_text, .ref a_t_saved, .ref a_t_undone, .int t_undos, .int t_reached, .int t_length, .int t_reached, .int t_sort, .long t_value, .long t_word, .int t_wrongAt, .int t_badAt, .int t_bad, .ref a_t_told, .long t_toldWeight, .long t_toldProfit, .int t_many, .long t_room, .ref a_t_orderOf, .ref a_t_placeOf, .ref a_t_w, .ref a_t_p, .int t_breakAt, .long t_breakWeight, .long t_breakProfit, .int t_from, .int t_to, .int t_made, .int t_sets, .ref a_t_setBits, .ref a_t_setWeight, .ref a_t_setProfit, .long t_bestBits, .long t_bestWeight, .long t_bestProfit, .int t_nexts, .ref a_t_nextBits, .ref a_t_nextWeight, .ref a_t_nextProfit])), (a_t_text, .inl (cy 2, 2400, .inl t_text))] H := hP
          have hD : va_D A [(a_t, .inr (7, [.int t_raised, .ref a_t_all, .ref a_t_text, .ref a_t_saved, .ref a_t_undone, .int t_undos, .int t_reached, .int t_length, .int t_reached, .int t_sort, .long t_value, .long t_word, .int t_wrongAt, .int t_badAt, .int t_bad, .ref a_t_told, .long t_toldWeight, .long t_toldProfit, .int t_many, .long t_room, .ref a_t_orderOf, .ref a_t_placeOf, .ref a_t_w, .ref a_t_p, .int t_breakAt, .long t_breakWeight, .long t_breakProfit, .int t_from, .int t_to, .int t_made, .int t_sets, .ref a_t_setBits, .ref a_t_setWeight, .ref a_t_setProfit, .long t_bestBits, .long t_bestWeight, .long t_bestProfit, .int t_nexts, .ref a_t_nextBits, .ref a_t_nextWeight, .ref a_t_nextProfit])), (a_t_text, .inl (cy 2, 2400, .inl t_text))] := hD
          refine lv_aload_n hx hb dX7_token_39 rfl (lv_at hl 0 rfl) ?_
          refine xVi0 (As := []) (rest := []) ⟨hx, hb, hml, hown, hts⟩ (mtX7_see l ad dC dI cy a_t a_t_all a_t_text a_t_saved a_t_undone a_t_told a_t_orderOf a_t_placeOf a_t_w a_t_p a_t_setBits a_t_setWeight a_t_setProfit a_t_nextBits a_t_nextWeight a_t_nextProfit _ t_raised t_undos t_reached t_length t_reached t_sort t_value t_word t_wrongAt t_badAt t_bad t_toldWeight t_toldProfit t_many t_room t_breakAt t_breakWeight t_breakProfit t_from t_to t_made t_sets t_bestBits t_bestWeight t_bestProfit t_nexts t_text  h) (cwV 0 hts gX7_token_X7_see rfl rfl rfl qX7_see ⟨Nat.le_of_ble_eq_true rfl, Nat.le_of_ble_eq_true rfl⟩) hE hK hP hD hS hA 7 0 rfl rfl rfl [0, 1] rfl (by decide) rfl hl.1 rfl (Nat.le_of_ble_eq_true rfl) dX7_token_40 ⟨Nat.le_refl _, Nat.le_refl _⟩ (fun r40 H locs h hP hS => ?_)
          try dsimp only at h
          refine lv_istore_n (lv' := [(1, .int r40), (0, .ref a_t)]) hx hb dX7_token_43 rfl hl (by decide) rfl (fun ls hl => ?_)
          refine lv_aload_n hx hb dX7_token_44 rfl (lv_at hl 1 rfl) ?_
          refine lv_lconst (v := 0) hx hb dX7_token_45 (by decide) ?_
          refine va_put (D := (dC, dI)) (ci := 7) (v := .long (0 : Int64)) (C := RX7) (T := TX7) (N := 41) hx hb hts iX7_token_X7 tyX7 tyX7_ok nmX7 hown hK hP hD hS 0 rfl rfl 11 (Nat.le_of_ble_eq_true rfl) (hts _ kX7_token_6) (fun _ h9 => h9) rfl (tyX7_ok 11 (Nat.le_of_ble_eq_true rfl)) rfl rfl (Nat.le_of_ble_eq_true rfl) dX7_token_46 (fun H locs hP hD hS => ?_)
          have hP : va_P (dC, dI) vwCl [(a_t, .inr (7, [.int t_raised, .ref a_t_all, .ref a_t_text, .ref a_t_saved, .ref a_t_undone, .int t_undos, .int t_reached, .int t_length, .int t_reached, .int t_sort, .long t_value, .long (0 : Int64), .int t_wrongAt, .int t_badAt, .int t_bad, .ref a_t_told, .long t_toldWeight, .long t_toldProfit, .int t_many, .long t_room, .ref a_t_orderOf, .ref a_t_placeOf, .ref a_t_w, .ref a_t_p, .int t_breakAt, .long t_breakWeight, .long t_breakProfit, .int t_from, .int t_to, .int t_made, .int t_sets, .ref a_t_setBits, .ref a_t_setWeight, .ref a_t_setProfit, .long t_bestBits, .long t_bestWeight, .long t_bestProfit, .int t_nexts, .ref a_t_nextBits, .ref a_t_nextWeight, .ref a_t_nextProfit])), (a_t_text, .inl (cy 2, 2400, .inl t_text))] H := hP
          have hD : va_D A [(a_t, .inr (7, [.int t_raised, .ref a_t_all, .ref a_t_text, .ref a_t_saved, .ref a_t_undone, .int t_undos, .int t_reached, .int t_length, .int t_reached, .int t_sort, .long t_value, .long (0 : Int64), .int t_wrongAt, .int t_badAt, .int t_bad, .ref a_t_told, .long t_toldWeight, .long t_toldProfit, .int t_many, .long t_room, .ref a_t_orderOf, .ref a_t_placeOf, .ref a_t_w, .ref a_t_p, .int t_breakAt, .long t_breakWeight, .long t_breakProfit, .int t_from, .int t_to, .int t_made, .int t_sets, .ref a_t_setBits, .ref a_t_setWeight, .ref a_t_setProfit, .long t_bestBits, .long t_bestWeight, .long t_bestProfit, .int t_nexts, .ref a_t_nextBits, .ref a_t_nextWeight, .ref a_t_nextProfit])), (a_t_text, .inl (cy 2, 2400, .inl t_text))] := hD
          refine lv_iconst (v := 0) hx hb dX7_token_49 (by decide) ?_
          refine lv_istore_n (lv' := [(2, .int (0 : Int32)), (1, .int r40), (0, .ref a_t)]) hx hb dX7_token_50 rfl hl (by decide) rfl (fun ls hl => ?_)
          refine lv_iload_n hx hb dX7_token_51 rfl (lv_at hl 1 rfl) ?_
          refine lv_if_ge (tgt := 63) hx hb dX7_token_52 (by decide) (fun c_8 => ?_) (fun c_8 => ?_)
          · replace h := h.1 c_8
            refine lv_iload_n hx hb dX7_token_63 rfl (lv_at hl 1 rfl) ?_
            refine lv_i2l hx hb dX7_token_64 rfl ?_
            refine lv_ldc2 hx hb hown (hts _ kX7_token_7) dX7_token_65 ?_
            refine lv_ldc2 hx hb hown (hts _ kX7_token_8) dX7_token_68 ?_
            refine xSi0 (As := [.long ((r40).toInt64), .long (97 : Int64), .long (122 : Int64)]) (rest := []) ⟨hx, hb, hml, hown, hts⟩ (mtX7_in l ad dC dI cy  _  ((r40).toInt64) (97 : Int64) (122 : Int64) h) (va_cwS 3 hts gX7_token_X7_in rfl rfl rfl qX7_in.2 ⟨Nat.le_of_ble_eq_true rfl, Nat.le_of_ble_eq_true rfl⟩) hE hK hP hD hS hA [] rfl (by decide) rfl hl.1 rfl (Nat.le_of_ble_eq_true rfl) dX7_token_71 ⟨Nat.le_refl _, Nat.le_refl _⟩ (fun r71 H locs h hP hS => ?_)
            try dsimp only at h
            refine lv_if_eq (tgt := 153) hx hb dX7_token_74 (by decide) (fun c_9 => ?_) (fun c_9 => ?_)
            · replace h := h.1 c_9
              refine lv_iload_n hx hb dX7_token_153 rfl (lv_at hl 1 rfl) ?_
              refine lv_i2l hx hb dX7_token_154 rfl ?_
              refine lv_ldc2 hx hb hown (hts _ kX7_token_3) dX7_token_155 ?_
              refine lv_ldc2 hx hb hown (hts _ kX7_token_5) dX7_token_158 ?_
              refine xSi0 (As := [.long ((r40).toInt64), .long (48 : Int64), .long (57 : Int64)]) (rest := []) ⟨hx, hb, hml, hown, hts⟩ (mtX7_in l ad dC dI cy  _  ((r40).toInt64) (48 : Int64) (57 : Int64) h) (va_cwS 3 hts gX7_token_X7_in rfl rfl rfl qX7_in.2 ⟨Nat.le_of_ble_eq_true rfl, Nat.le_of_ble_eq_true rfl⟩) hE hK hP hD hS hA [] rfl (by decide) rfl hl.1 rfl (Nat.le_of_ble_eq_true rfl) dX7_token_161 ⟨Nat.le_refl _, Nat.le_refl _⟩ (fun r161 H locs h hP hS => ?_)
              try dsimp only at h
              refine lv_if_eq (tgt := 258) hx hb dX7_token_164 (by decide) (fun c_10 => ?_) (fun c_10 => ?_)
              · replace h := h.1 c_10
                refine lv_aload_n hx hb dX7_token_258 rfl (lv_at hl 2 rfl) ?_
                refine lv_dup hx hb dX7_token_259 rfl ?_
                refine va_get (D := (dC, dI)) (ci := 7) (v := .int t_reached) (C := RX7) (T := TX7) (N := 41) hx hb hts iX7_token_X7 hown hK hP 0 rfl rfl 6 (Nat.le_of_ble_eq_true rfl) (hts _ kX7_token_2) (fun _ h9 => h9) rfl dX7_token_260 ?_
                refine lv_iconst (v := 1) hx hb dX7_token_263 (by decide) ?_
                refine lv_iadd hx hb dX7_token_264 ?_
                refine va_put (D := (dC, dI)) (ci := 7) (v := .int (t_reached + (1 : Int32))) (C := RX7) (T := TX7) (N := 41) hx hb hts iX7_token_X7 tyX7 tyX7_ok nmX7 hown hK hP hD hS 0 rfl rfl 6 (Nat.le_of_ble_eq_true rfl) (hts _ kX7_token_2) (fun _ h9 => h9) rfl (tyX7_ok 6 (Nat.le_of_ble_eq_true rfl)) rfl rfl (Nat.le_of_ble_eq_true rfl) dX7_token_265 (fun H locs hP hD hS => ?_)
                have hP : va_P (dC, dI) vwCl [(a_t, .inr (7, [.int t_raised, .ref a_t_all, .ref a_t_text, .ref a_t_saved, .ref a_t_undone, .int t_undos, .int (t_reached + (1 : Int32)), .int t_length, .int t_reached, .int t_sort, .long t_value, .long (0 : Int64), .int t_wrongAt, .int t_badAt, .int t_bad, .ref a_t_told, .long t_toldWeight, .long t_toldProfit, .int t_many, .long t_room, .ref a_t_orderOf, .ref a_t_placeOf, .ref a_t_w, .ref a_t_p, .int t_breakAt, .long t_breakWeight, .long t_breakProfit, .int t_from, .int t_to, .int t_made, .int t_sets, .ref a_t_setBits, .ref a_t_setWeight, .ref a_t_setProfit, .long t_bestBits, .long t_bestWeight, .long t_bestProfit, .int t_nexts, .ref a_t_nextBits, .ref a_t_nextWeight, .ref a_t_nextProfit])), (a_t_text, .inl (cy 2, 2400, .inl t_text))] H := hP
                have hD : va_D A [(a_t, .inr (7, [.int t_raised, .ref a_t_all, .ref a_t_text, .ref a_t_saved, .ref a_t_undone, .int t_undos, .int (t_reached + (1 : Int32)), .int t_length, .int t_reached, .int t_sort, .long t_value, .long (0 : Int64), .int t_wrongAt, .int t_badAt, .int t_bad, .ref a_t_told, .long t_toldWeight, .long t_toldProfit, .int t_many, .long t_room, .ref a_t_orderOf, .ref a_t_placeOf, .ref a_t_w, .ref a_t_p, .int t_breakAt, .long t_breakWeight, .long t_breakProfit, .int t_from, .int t_to, .int t_made, .int t_sets, .ref a_t_setBits, .ref a_t_setWeight, .ref a_t_setProfit, .long t_bestBits, .long t_bestWeight, .long t_bestProfit, .int t_nexts, .ref a_t_nextBits, .ref a_t_nextWeight, .ref a_t_nextProfit])), (a_t_text, .inl (cy 2, 2400, .inl t_text))] := hD
                refine lv_aload_n hx hb dX7_token_268 rfl (lv_at hl 2 rfl) ?_
                refine lv_iload_n hx hb dX7_token_269 rfl (lv_at hl 1 rfl) ?_
                refine lv_bipush (v := 59) hx hb dX7_token_270 (by decide) ?_
                refine lv_icmp_ne (tgt := 279) hx hb dX7_token_272 (by decide) (fun c_11 => ?_) (fun c_11 => ?_)
                · replace h := h.2 c_11
                  refine lv_iconst (v := 1) hx hb dX7_token_279 (by decide) ?_
                  exact C280 (t_reached + (1 : Int32)) t_reached t_sort t_value (0 : Int64) (1 : Int32) h _ _ _ (x_sub hP [0, 1] rfl) (hD.sub [0, 1] (by decide) rfl) hS (lv_sub hl [] rfl)
                · replace h := h.1 c_11
                  refine lv_iconst (v := 4) hx hb dX7_token_275 (by decide) ?_
                  refine lv_goto (tgt := 280) hx hb dX7_token_276 (by decide) ?_
                  exact C280 (t_reached + (1 : Int32)) t_reached t_sort t_value (0 : Int64) (4 : Int32) h _ _ _ (x_sub hP [0, 1] rfl) (hD.sub [0, 1] (by decide) rfl) hS (lv_sub hl [] rfl)
              · replace h := h.2 c_10
                refine lv_aload_n hx hb dX7_token_167 rfl (lv_at hl 2 rfl) ?_
                refine lv_lconst (v := 0) hx hb dX7_token_168 (by decide) ?_
                refine va_put (D := (dC, dI)) (ci := 7) (v := .long (0 : Int64)) (C := RX7) (T := TX7) (N := 41) hx hb hts iX7_token_X7 tyX7 tyX7_ok nmX7 hown hK hP hD hS 0 rfl rfl 10 (Nat.le_of_ble_eq_true rfl) (hts _ kX7_token_1) (fun _ h9 => h9) rfl (tyX7_ok 10 (Nat.le_of_ble_eq_true rfl)) rfl rfl (Nat.le_of_ble_eq_true rfl) dX7_token_169 (fun H locs hP hD hS => ?_)
                have hP : va_P (dC, dI) vwCl [(a_t, .inr (7, [.int t_raised, .ref a_t_all, .ref a_t_text, .ref a_t_saved, .ref a_t_undone, .int t_undos, .int t_reached, .int t_length, .int t_reached, .int t_sort, .long (0 : Int64), .long (0 : Int64), .int t_wrongAt, .int t_badAt, .int t_bad, .ref a_t_told, .long t_toldWeight, .long t_toldProfit, .int t_many, .long t_room, .ref a_t_orderOf, .ref a_t_placeOf, .ref a_t_w, .ref a_t_p, .int t_breakAt, .long t_breakWeight, .long t_breakProfit, .int t_from, .int t_to, .int t_made, .int t_sets, .ref a_t_setBits, .ref a_t_setWeight, .ref a_t_setProfit, .long t_bestBits, .long t_bestWeight, .long t_bestProfit, .int t_nexts, .ref a_t_nextBits, .ref a_t_nextWeight, .ref a_t_nextProfit])), (a_t_text, .inl (cy 2, 2400, .inl t_text))] H := hP
                have hD : va_D A [(a_t, .inr (7, [.int t_raised, .ref a_t_all, .ref a_t_text, .ref a_t_saved, .ref a_t_undone, .int t_undos, .int t_reached, .int t_length, .int t_reached, .int t_sort, .long (0 : Int64), .long (0 : Int64), .int t_wrongAt, .int t_badAt, .int t_bad, .ref a_t_told, .long t_toldWeight, .long t_toldProfit, .int t_many, .long t_room, .ref a_t_orderOf, .ref a_t_placeOf, .ref a_t_w, .ref a_t_p, .int t_breakAt, .long t_breakWeight, .long t_breakProfit, .int t_from, .int t_to, .int t_made, .int t_sets, .ref a_t_setBits, .ref a_t_setWeight, .ref a_t_setProfit, .long t_bestBits, .long t_bestWeight, .long t_bestProfit, .int t_nexts, .ref a_t_nextBits, .ref a_t_nextWeight, .ref a_t_nextProfit])), (a_t_text, .inl (cy 2, 2400, .inl t_text))] := hD
                obtain ⟨n9, h⟩ := h
                exact L172 n9 t_reached t_reached t_sort (0 : Int64) (0 : Int64) (0 : Int32) h _ _ _ (x_sub hP [0, 1] rfl) (hD.sub [0, 1] (by decide) rfl) hS (lv_sub hl [2, 0] rfl)
            · replace h := h.2 c_9
              obtain ⟨n9, h⟩ := h
              exact L77 n9 t_reached t_reached t_sort t_value (0 : Int64) (0 : Int32) h _ _ _ (x_sub hP [0, 1] rfl) (hD.sub [0, 1] (by decide) rfl) hS (lv_sub hl [2, 0] rfl)
          · replace h := h.2 c_8
            refine lv_aload_n hx hb dX7_token_55 rfl (lv_at hl 2 rfl) ?_
            refine lv_iconst (v := 0) hx hb dX7_token_56 (by decide) ?_
            refine va_put (D := (dC, dI)) (ci := 7) (v := .int (0 : Int32)) (C := RX7) (T := TX7) (N := 41) hx hb hts iX7_token_X7 tyX7 tyX7_ok nmX7 hown hK hP hD hS 0 rfl rfl 9 (Nat.le_of_ble_eq_true rfl) (hts _ kX7_token_0) (fun _ h9 => h9) rfl (tyX7_ok 9 (Nat.le_of_ble_eq_true rfl)) rfl rfl (Nat.le_of_ble_eq_true rfl) dX7_token_57 (fun H locs hP hD hS => ?_)
            have hP : va_P (dC, dI) vwCl [(a_t, .inr (7, [.int t_raised, .ref a_t_all, .ref a_t_text, .ref a_t_saved, .ref a_t_undone, .int t_undos, .int t_reached, .int t_length, .int t_reached, .int (0 : Int32), .long t_value, .long (0 : Int64), .int t_wrongAt, .int t_badAt, .int t_bad, .ref a_t_told, .long t_toldWeight, .long t_toldProfit, .int t_many, .long t_room, .ref a_t_orderOf, .ref a_t_placeOf, .ref a_t_w, .ref a_t_p, .int t_breakAt, .long t_breakWeight, .long t_breakProfit, .int t_from, .int t_to, .int t_made, .int t_sets, .ref a_t_setBits, .ref a_t_setWeight, .ref a_t_setProfit, .long t_bestBits, .long t_bestWeight, .long t_bestProfit, .int t_nexts, .ref a_t_nextBits, .ref a_t_nextWeight, .ref a_t_nextProfit])), (a_t_text, .inl (cy 2, 2400, .inl t_text))] H := hP
            have hD : va_D A [(a_t, .inr (7, [.int t_raised, .ref a_t_all, .ref a_t_text, .ref a_t_saved, .ref a_t_undone, .int t_undos, .int t_reached, .int t_length, .int t_reached, .int (0 : Int32), .long t_value, .long (0 : Int64), .int t_wrongAt, .int t_badAt, .int t_bad, .ref a_t_told, .long t_toldWeight, .long t_toldProfit, .int t_many, .long t_room, .ref a_t_orderOf, .ref a_t_placeOf, .ref a_t_w, .ref a_t_p, .int t_breakAt, .long t_breakWeight, .long t_breakProfit, .int t_from, .int t_to, .int t_made, .int t_sets, .ref a_t_setBits, .ref a_t_setWeight, .ref a_t_setProfit, .long t_bestBits, .long t_bestWeight, .long t_bestProfit, .int t_nexts, .ref a_t_nextBits, .ref a_t_nextWeight, .ref a_t_nextProfit])), (a_t_text, .inl (cy 2, 2400, .inl t_text))] := hD
            refine lv_goto (tgt := 283) hx hb dX7_token_60 (by decide) ?_
            subst hQ
            exact W.vret hx hb hr (fun t ht hW => ⟨⟨(t_reached, t_reached, (0 : Int32), t_value, (0 : Int64)), rfl, h, x_end (w1 := [(a_t, .inr (7, [.int t_raised, .ref a_t_all, .ref a_t_text, .ref a_t_saved, .ref a_t_undone, .int t_undos, .int t_reached, .int t_length, .int t_reached, .int (0 : Int32), .long t_value, .long (0 : Int64), .int t_wrongAt, .int t_badAt, .int t_bad, .ref a_t_told, .long t_toldWeight, .long t_toldProfit, .int t_many, .long t_room, .ref a_t_orderOf, .ref a_t_placeOf, .ref a_t_w, .ref a_t_p, .int t_breakAt, .long t_breakWeight, .long t_breakProfit, .int t_from, .int t_to, .int t_made, .int t_sets, .ref a_t_setBits, .ref a_t_setWeight, .ref a_t_setProfit, .long t_bestBits, .long t_bestWeight, .long t_bestProfit, .int t_nexts, .ref a_t_nextBits, .ref a_t_nextWeight, .ref a_t_nextProfit])), (a_t_text, .inl (cy 2, 2400, .inl t_text))]) hP hD hK [0, 1] rfl (by decide) rfl ht hW⟩, hS.F ht⟩) hS.2.2 dX7_token_283
        · replace h := h.1 c_7
          exact C18 t_reached t_begin t_sort t_value t_word h _ _ _ (x_sub hP [0, 1] rfl) (hD.sub [0, 1] (by decide) rfl) hS (lv_sub hl [0] rfl)
  obtain ⟨n9, h⟩ := h
  exact L0 n9 t_reached t_begin t_sort t_value t_word h _ _ _ (x_sub hP [0, 1] rfl) (hD.sub [0, 1] (by decide) rfl) hS (lv_sub hl [0] rfl)
