def wX6_shelved_5 (t_now_shelfProfits t_now_shelfWeights : Nat → Int32) (post : Int32 → Prop) (v1 v2 v3 k0 : Int32) : Prop :=
  (k0 = (0 : Int32) → post (-1 : Int32)) ∧ (¬ k0 = (0 : Int32) → (v3 = (0 : Int32) → vp_in ((v1 * (4 : Int32)) + v2) 8 ∧ post (t_now_shelfWeights (((v1 * (4 : Int32)) + v2)).toNatClampNeg)) ∧ (¬ v3 = (0 : Int32) → vp_in ((v1 * (4 : Int32)) + v2) 8 ∧ post (t_now_shelfProfits (((v1 * (4 : Int32)) + v2)).toNatClampNeg)))
/-- KnapsackCore.shelved(IIZ)I -/
def wX6_shelved (t_now_shelfProfits t_now_shelfWeights : Nat → Int32) (post : Int32 → Prop) (v1 v2 v3 : Int32) : Prop :=
  wX6_isShelfPlace (fun r2 => wX6_shelved_5 t_now_shelfProfits t_now_shelfWeights post v1 v2 v3 r2) v1 v2
theorem kX6_shelved_0 : Cond.fieldLink RX6 10 "KnapsackCore" "now" "LKnapsackCore$State;" ∈ wsX6_shelved := (List.mem_cons_of_mem _ (List.mem_append_left _ (List.mem_append_left _ (List.mem_of_getElem? (i := 0) rfl))))
theorem kX6_shelved_1 : Cond.fieldLink RX6 312 "KnapsackCore$State" "shelfWeights" "[I" ∈ wsX6_shelved := (List.mem_cons_of_mem _ (List.mem_append_left _ (List.mem_append_left _ (List.mem_of_getElem? (i := 2) rfl))))
theorem kX6_shelved_2 : Cond.fieldLink RX6 315 "KnapsackCore$State" "shelfProfits" "[I" ∈ wsX6_shelved := (List.mem_cons_of_mem _ (List.mem_append_left _ (List.mem_append_left _ (List.mem_of_getElem? (i := 1) rfl))))
theorem iX6_shelved_X6 : ∀ w ∈ u_ws RX6 TX6 11, w ∈ wsX6_shelved := fun w h => (List.mem_cons_of_mem _ (List.mem_append_left _ (List.mem_append_right _ h)))
theorem iX6_shelved_X5 : ∀ w ∈ u_ws RX5 TX5 7, w ∈ wsX6_shelved := fun w h => (List.mem_cons_of_mem _ (List.mem_append_right _ h))
set_option maxHeartbeats 4000000 in
set_option maxRecDepth 100000 in
theorem mtX6_shelved (l : Launch) (ad : (Nat → Nat) × (Nat → Nat)) (dC : Nat → ClassId) (dI : Nat → Nat → Nat) (cy : Nat → ClassId) (a_t a_t_now a_t_images a_t_past a_t_core a_t_supposed a_t_trial a_t_reader a_t_front a_t_frontSpare a_t_now_load a_t_now_text a_t_now_shelfWeights a_t_now_shelfProfits : Nat) (sz : Nat) (t_acts t_frontState t_now_length t_now_fault t_now_faultPlace : Int32) (t_now_shelfProfits t_now_shelfWeights : Nat → Int32) (v1 v2 v3 : Int32) {post : Int32 → Prop} (h : wX6_shelved t_now_shelfProfits t_now_shelfWeights post v1 v2 v3) : xMi l yX6_shelved wsX6_shelved ({ frames := 1, cells := 0, slots := 0, locals := 21 } : Room) ad (dC, dI) vwCl (xT cy) [.ref a_t, .int v1, .int v2, .int v3] [(a_t, .inr (6, [.ref a_t_now, .ref a_t_images, .ref a_t_past, .int t_acts, .ref a_t_core, .ref a_t_supposed, .ref a_t_trial, .ref a_t_reader, .ref a_t_front, .ref a_t_frontSpare, .int t_frontState])), (a_t_now, .inr (5, [.ref a_t_now_load, .ref a_t_now_text, .int t_now_length, .int t_now_fault, .int t_now_faultPlace, .ref a_t_now_shelfWeights, .ref a_t_now_shelfProfits])), (a_t_now_shelfProfits, .inl (cy 0, 8, .inl t_now_shelfProfits)), (a_t_now_shelfWeights, .inl (cy 0, 8, .inl t_now_shelfWeights))] sz (fun (r : Int32) (_ : Unit) => post r) (fun (_ : Unit) w => w = [(a_t, .inr (6, [.ref a_t_now, .ref a_t_images, .ref a_t_past, .int t_acts, .ref a_t_core, .ref a_t_supposed, .ref a_t_trial, .ref a_t_reader, .ref a_t_front, .ref a_t_frontSpare, .int t_frontState])), (a_t_now, .inr (5, [.ref a_t_now_load, .ref a_t_now_text, .int t_now_length, .int t_now_fault, .int t_now_faultPlace, .ref a_t_now_shelfWeights, .ref a_t_now_shelfProfits])), (a_t_now_shelfProfits, .inl (cy 0, 8, .inl t_now_shelfProfits)), (a_t_now_shelfWeights, .inl (cy 0, 8, .inl t_now_shelfWeights))]) 0 0 := by
  unfold xMi
  refine Met.ofW (cc := cX6_shelved) (maxL := 5) (ret := (some .int)) (by decide +kernel) rfl ?_
  intro p e s m args below meth c s₁ B hml hv
  obtain ⟨rfl, hsz, hP, hK, hD0, hE⟩ := hv
  have hx := B.exec
  have hb := B.bytes
  have hr := B.returns
  have hts := atoms_spec (ws := wsX6_shelved) B.pre
  have hown : s.vm.findClass RX6 = some m.cls := findClass_of_methodNamed B.named
  have hlocks := B.notSynchronized
  subst hsz
  have hD := hD0.self (sz := s.heap.size)
  generalize hAe : va_A [(a_t, .inr (6, [.ref a_t_now, .ref a_t_images, .ref a_t_past, .int t_acts, .ref a_t_core, .ref a_t_supposed, .ref a_t_trial, .ref a_t_reader, .ref a_t_front, .ref a_t_frontSpare, .int t_frontState])), (a_t_now, .inr (5, [.ref a_t_now_load, .ref a_t_now_text, .int t_now_length, .int t_now_fault, .int t_now_faultPlace, .ref a_t_now_shelfWeights, .ref a_t_now_shelfProfits])), (a_t_now_shelfProfits, .inl (cy 0, 8, .inl t_now_shelfProfits)), (a_t_now_shelfWeights, .inl (cy 0, 8, .inl t_now_shelfWeights))] s.heap.size = A at hD hE ⊢
  have hA : ∀ q : Nat, s.heap.size ≤ q → A q := fun q h => by rw [← hAe]; exact Or.inr h
  have hS : va_S A s.heap s.heap [] := va_S.rf
  have hl := lv_entry ([.ref a_t, .int v1, .int v2, .int v3]) (n := 5) (Nat.le_of_ble_eq_true rfl)
  rw [lg_entry_eq]
  generalize (lg_sl ([.ref a_t, .int v1, .int v2, .int v3]) ++ List.replicate (5 - (lg_sl ([.ref a_t, .int v1, .int v2, .int v3])).length) Slot.unset).toArray = ls at hl ⊢
  have hl : lv_has ls 5 [(0, .ref a_t), (1, .int v1), (2, .int v2), (3, .int v3)] := hl
  generalize hQ : MQ below _ _ s _ _ _ = Q
  generalize ([.ref a_t, .int v1, .int v2, .int v3] : List Value).toArray = args at hts hQ ⊢
  clear B hD0 hAe
  refine lv_iload_n hx hb dX6_shelved_0 rfl (lv_at hl 1 rfl) ?_
  refine lv_iload_n hx hb dX6_shelved_1 rfl (lv_at hl 2 rfl) ?_
  refine xSi0 (As := [.int v1, .int v2]) (rest := []) ⟨hx, hb, hml, hown, hts⟩ (mtX6_isShelfPlace l ad dC dI cy  _  v1 v2 h) (va_cwS 2 hts gX6_shelved_X6_isShelfPlace rfl rfl rfl qX6_isShelfPlace.2 ⟨Nat.le_of_ble_eq_true rfl, Nat.le_of_ble_eq_true rfl⟩) hE hK hP hD hS hA [] rfl (by decide) rfl hl.1 rfl (Nat.le_of_ble_eq_true rfl) dX6_shelved_2 ⟨Nat.le_refl _, Nat.le_refl _⟩ (fun r2 H locs h hP hS => ?_)
  try dsimp only at h
  refine lv_if_ne (tgt := 10) hx hb dX6_shelved_5 (by decide) (fun c_1 => ?_) (fun c_1 => ?_)
  · replace h := h.2 c_1
    refine lv_iload_n hx hb dX6_shelved_10 rfl (lv_at hl 1 rfl) ?_
    refine lv_iconst (v := 4) hx hb dX6_shelved_11 (by decide) ?_
    refine lv_imul hx hb dX6_shelved_12 ?_
    refine lv_iload_n hx hb dX6_shelved_13 rfl (lv_at hl 2 rfl) ?_
    refine lv_iadd hx hb dX6_shelved_14 ?_
    refine lv_istore (lv' := [(4, .int ((v1 * (4 : Int32)) + v2)), (0, .ref a_t), (1, .int v1), (2, .int v2), (3, .int v3)]) hx hb dX6_shelved_15 hl (by decide) rfl (fun ls hl => ?_)
    refine lv_iload_n hx hb dX6_shelved_17 rfl (lv_at hl 4 rfl) ?_
    refine lv_if_eq (tgt := 34) hx hb dX6_shelved_18 (by decide) (fun c_2 => ?_) (fun c_2 => ?_)
    · replace h := h.1 c_2
      refine lv_aload_n hx hb dX6_shelved_34 rfl (lv_at hl 1 rfl) ?_
      refine va_get (D := (dC, dI)) (ci := 6) (v := .ref a_t_now) (C := RX6) (T := TX6) (N := 11) hx hb hts iX6_shelved_X6 hown hK hP 0 rfl rfl 0 (Nat.le_of_ble_eq_true rfl) (hts _ kX6_shelved_0) (fun _ h9 => h9) rfl dX6_shelved_35 ?_
      refine va_get (D := (dC, dI)) (ci := 5) (v := .ref a_t_now_shelfWeights) (C := RX5) (T := TX5) (N := 7) hx hb hts iX6_shelved_X5 hown hK hP 1 rfl rfl 5 (Nat.le_of_ble_eq_true rfl) (hts _ kX6_shelved_1) (fun _ h9 => h9) rfl dX6_shelved_38 ?_
      refine lv_iload hx hb dX6_shelved_41 (lv_at hl 0 rfl) ?_
      refine va_iald (D := (dC, dI)) hx hb hK hP 3 0 rfl rfl h.1 dX6_shelved_43 ?_
      replace h := h.2
      rw [← hQ]
      exact W.iret (v := (t_now_shelfWeights (((v1 * (4 : Int32)) + v2)).toNatClampNeg)) hx hb hr (fun t ht hW => ⟨⟨(t_now_shelfWeights (((v1 * (4 : Int32)) + v2)).toNatClampNeg), (), rfl, h, x_end (w1 := [(a_t, .inr (6, [.ref a_t_now, .ref a_t_images, .ref a_t_past, .int t_acts, .ref a_t_core, .ref a_t_supposed, .ref a_t_trial, .ref a_t_reader, .ref a_t_front, .ref a_t_frontSpare, .int t_frontState])), (a_t_now, .inr (5, [.ref a_t_now_load, .ref a_t_now_text, .int t_now_length, .int t_now_fault, .int t_now_faultPlace, .ref a_t_now_shelfWeights, .ref a_t_now_shelfProfits])), (a_t_now_shelfProfits, .inl (cy 0, 8, .inl t_now_shelfProfits)), (a_t_now_shelfWeights, .inl (cy 0, 8, .inl t_now_shelfWeights))]) hP hD hK [0, 1, 2, 3] rfl (by decide) rfl ht hW⟩, hS.F ht⟩) hS.2.2 dX6_shelved_44
    · replace h := h.2 c_2
      refine lv_aload_n hx hb dX6_shelved_21 rfl (lv_at hl 1 rfl) ?_
      refine va_get (D := (dC, dI)) (ci := 6) (v := .ref a_t_now) (C := RX6) (T := TX6) (N := 11) hx hb hts iX6_shelved_X6 hown hK hP 0 rfl rfl 0 (Nat.le_of_ble_eq_true rfl) (hts _ kX6_shelved_0) (fun _ h9 => h9) rfl dX6_shelved_22 ?_
      refine va_get (D := (dC, dI)) (ci := 5) (v := .ref a_t_now_shelfProfits) (C := RX5) (T := TX5) (N := 7) hx hb hts iX6_shelved_X5 hown hK hP 1 rfl rfl 6 (Nat.le_of_ble_eq_true rfl) (hts _ kX6_shelved_2) (fun _ h9 => h9) rfl dX6_shelved_25 ?_
      refine lv_iload hx hb dX6_shelved_28 (lv_at hl 0 rfl) ?_
      refine va_iald (D := (dC, dI)) hx hb hK hP 2 0 rfl rfl h.1 dX6_shelved_30 ?_
      replace h := h.2
      refine lv_goto (tgt := 44) hx hb dX6_shelved_31 (by decide) ?_
      rw [← hQ]
      exact W.iret (v := (t_now_shelfProfits (((v1 * (4 : Int32)) + v2)).toNatClampNeg)) hx hb hr (fun t ht hW => ⟨⟨(t_now_shelfProfits (((v1 * (4 : Int32)) + v2)).toNatClampNeg), (), rfl, h, x_end (w1 := [(a_t, .inr (6, [.ref a_t_now, .ref a_t_images, .ref a_t_past, .int t_acts, .ref a_t_core, .ref a_t_supposed, .ref a_t_trial, .ref a_t_reader, .ref a_t_front, .ref a_t_frontSpare, .int t_frontState])), (a_t_now, .inr (5, [.ref a_t_now_load, .ref a_t_now_text, .int t_now_length, .int t_now_fault, .int t_now_faultPlace, .ref a_t_now_shelfWeights, .ref a_t_now_shelfProfits])), (a_t_now_shelfProfits, .inl (cy 0, 8, .inl t_now_shelfProfits)), (a_t_now_shelfWeights, .inl (cy 0, 8, .inl t_now_shelfWeights))]) hP hD hK [0, 1, 2, 3] rfl (by decide) rfl ht hW⟩, hS.F ht⟩) hS.2.2 dX6_shelved_44
  · replace h := h.1 c_1
    refine lv_iconst (v := -1) hx hb dX6_shelved_8 (by decide) ?_
    rw [← hQ]
    exact W.iret (v := (-1 : Int32)) hx hb hr (fun t ht hW => ⟨⟨(-1 : Int32), (), rfl, h, x_end (w1 := [(a_t, .inr (6, [.ref a_t_now, .ref a_t_images, .ref a_t_past, .int t_acts, .ref a_t_core, .ref a_t_supposed, .ref a_t_trial, .ref a_t_reader, .ref a_t_front, .ref a_t_frontSpare, .int t_frontState])), (a_t_now, .inr (5, [.ref a_t_now_load, .ref a_t_now_text, .int t_now_length, .int t_now_fault, .int t_now_faultPlace, .ref a_t_now_shelfWeights, .ref a_t_now_shelfProfits])), (a_t_now_shelfProfits, .inl (cy 0, 8, .inl t_now_shelfProfits)), (a_t_now_shelfWeights, .inl (cy 0, 8, .inl t_now_shelfWeights))]) hP hD hK [0, 1, 2, 3] rfl (by decide) rfl ht hW⟩, hS.F ht⟩) hS.2.2 dX6_shelved_9

theorem qX6_bestInsteadOf : yX6_bestInsteadOf.cls = RX6 ∧ yX6_bestInsteadOf.cls ≠ "java/lang/invoke/MethodHandle" ∧ yX6_bestInsteadOf.cls ≠ "java/lang/invoke/VarHandle" ∧ (parseMethodDescriptor yX6_bestInsteadOf.desc).map (fun d => d.parameters.length) = some 1 := by decide +kernel
def wX6_swap_154 (t_now_load_items t_core_bestWeight : Int32) (t_core_bestBits : Int64) (t_core_ranked_items t_core_ranked_room : Int32) (t_core_ranked_weights t_core_ranked_profits t_core_ranked_itemAt : Nat → Int32) (K21 : Int32 → Int32 → Int32 → Int32 → Int32 → Prop) (post : Int32 → Prop) (v1 v2 v3 v4 v5 : Int32) : Prop :=
  K21 v1 v2 v3 v4 (v5 + (1 : Int32))
def wX6_swap_58 (t_now_load_items t_core_bestWeight : Int32) (t_core_bestBits : Int64) (t_core_ranked_items t_core_ranked_room : Int32) (t_core_ranked_weights t_core_ranked_profits t_core_ranked_itemAt : Nat → Int32) (K21 : Int32 → Int32 → Int32 → Int32 → Int32 → Prop) (post : Int32 → Prop) (v1 v2 v3 v4 v5 k0 : Int32) : Prop :=
  (k0 = (-1 : Int32) → wX6_swap_154 t_now_load_items t_core_bestWeight t_core_bestBits t_core_ranked_items t_core_ranked_room t_core_ranked_weights t_core_ranked_profits t_core_ranked_itemAt K21 post v1 v2 v3 v4 v5) ∧ (¬ k0 = (-1 : Int32) → vp_in k0 60 ∧ vp_in v5 60 ∧ (((t_core_ranked_profits (k0).toNatClampNeg) - (t_core_ranked_profits (v5).toNatClampNeg)) ≤ v2 → wX6_swap_154 t_now_load_items t_core_bestWeight t_core_bestBits t_core_ranked_items t_core_ranked_room t_core_ranked_weights t_core_ranked_profits t_core_ranked_itemAt K21 post v1 v2 v3 v4 v5) ∧ (¬ ((t_core_ranked_profits (k0).toNatClampNeg) - (t_core_ranked_profits (v5).toNatClampNeg)) ≤ v2 → vp_in k0 60 ∧ vp_in v5 60 ∧ vp_in v5 60 ∧ vp_in k0 60 ∧ wX6_swap_154 t_now_load_items t_core_bestWeight t_core_bestBits t_core_ranked_items t_core_ranked_room t_core_ranked_weights t_core_ranked_profits t_core_ranked_itemAt K21 post v1 ((t_core_ranked_profits (k0).toNatClampNeg) - (t_core_ranked_profits (v5).toNatClampNeg)) (t_core_ranked_itemAt (v5).toNatClampNeg) (t_core_ranked_itemAt (k0).toNatClampNeg) v5))
def wX6_swap_54 (t_now_load_items t_core_bestWeight : Int32) (t_core_bestBits : Int64) (t_core_ranked_items t_core_ranked_room : Int32) (t_core_ranked_weights t_core_ranked_profits t_core_ranked_itemAt : Nat → Int32) (K21 : Int32 → Int32 → Int32 → Int32 → Int32 → Prop) (post : Int32 → Prop) (v1 v2 v3 v4 v5 k0 : Int32) : Prop :=
  wX6_swap_58 t_now_load_items t_core_bestWeight t_core_bestBits t_core_ranked_items t_core_ranked_room t_core_ranked_weights t_core_ranked_profits t_core_ranked_itemAt K21 post v1 v2 v3 v4 v5 k0
def wX6_swap_45 (t_now_load_items t_core_bestWeight : Int32) (t_core_bestBits : Int64) (t_core_ranked_items t_core_ranked_room : Int32) (t_core_ranked_weights t_core_ranked_profits t_core_ranked_itemAt : Nat → Int32) (K21 : Int32 → Int32 → Int32 → Int32 → Int32 → Prop) (post : Int32 → Prop) (v1 v2 v3 v4 v5 k0 : Int32) : Prop :=
  (k0 = (0 : Int32) → wX6_swap_58 t_now_load_items t_core_bestWeight t_core_bestBits t_core_ranked_items t_core_ranked_room t_core_ranked_weights t_core_ranked_profits t_core_ranked_itemAt K21 post v1 v2 v3 v4 v5 (-1 : Int32)) ∧ (¬ k0 = (0 : Int32) → wX6_bestInsteadOf t_core_bestWeight t_core_bestBits t_core_ranked_items t_core_ranked_room t_core_ranked_weights t_core_ranked_profits (fun r51 => wX6_swap_54 t_now_load_items t_core_bestWeight t_core_bestBits t_core_ranked_items t_core_ranked_room t_core_ranked_weights t_core_ranked_profits t_core_ranked_itemAt K21 post v1 v2 v3 v4 v5 r51) v5)
def wX6_swap_21_b (t_now_load_items t_core_bestWeight : Int32) (t_core_bestBits : Int64) (t_core_ranked_items t_core_ranked_room : Int32) (t_core_ranked_weights t_core_ranked_profits t_core_ranked_itemAt : Nat → Int32) (post : Int32 → Prop) (K21 : Int32 → Int32 → Int32 → Int32 → Int32 → Prop) (v1 v2 v3 v4 v5 : Int32) : Prop :=
  (t_now_load_items ≤ v5 → (v1 = (0 : Int32) → post v2) ∧ (¬ v1 = (0 : Int32) → (v1 = (1 : Int32) → post v3) ∧ (¬ v1 = (1 : Int32) → post v4))) ∧ (¬ t_now_load_items ≤ v5 → wX0_bestHas t_core_bestBits t_core_ranked_items (fun r42 => wX6_swap_45 t_now_load_items t_core_bestWeight t_core_bestBits t_core_ranked_items t_core_ranked_room t_core_ranked_weights t_core_ranked_profits t_core_ranked_itemAt K21 post v1 v2 v3 v4 v5 r42) v5)
def wX6_swap_21 (t_now_load_items t_core_bestWeight : Int32) (t_core_bestBits : Int64) (t_core_ranked_items t_core_ranked_room : Int32) (t_core_ranked_weights t_core_ranked_profits t_core_ranked_itemAt : Nat → Int32) (post : Int32 → Prop) : Nat → Int32 → Int32 → Int32 → Int32 → Int32 → Prop
  | 0 => fun _ _ _ _ _ => False
  | n + 1 => wX6_swap_21_b t_now_load_items t_core_bestWeight t_core_bestBits t_core_ranked_items t_core_ranked_room t_core_ranked_weights t_core_ranked_profits t_core_ranked_itemAt post (wX6_swap_21 t_now_load_items t_core_bestWeight t_core_bestBits t_core_ranked_items t_core_ranked_room t_core_ranked_weights t_core_ranked_profits t_core_ranked_itemAt post n)
/-- KnapsackCore.swap(I)I -/
def wX6_swap (t_now_load_items t_core_bestWeight : Int32) (t_core_bestBits : Int64) (t_core_ranked_items t_core_ranked_room : Int32) (t_core_ranked_weights t_core_ranked_profits t_core_ranked_itemAt : Nat → Int32) (post : Int32 → Prop) (v1 : Int32) : Prop :=
  (v1 < (0 : Int32) → post (-1 : Int32)) ∧ (¬ v1 < (0 : Int32) → (v1 ≤ (2 : Int32) → ∃ n : Nat, wX6_swap_21 t_now_load_items t_core_bestWeight t_core_bestBits t_core_ranked_items t_core_ranked_room t_core_ranked_weights t_core_ranked_profits t_core_ranked_itemAt post n v1 (0 : Int32) (-1 : Int32) (-1 : Int32) (0 : Int32)) ∧ (¬ v1 ≤ (2 : Int32) → post (-1 : Int32)))
theorem kX6_swap_0 : Cond.fieldLink RX6 30 "KnapsackCore" "core" "LKnapsackCore$Core;" ∈ wsX6_swap := (List.mem_cons_of_mem _ (List.mem_append_left _ (List.mem_append_left _ (List.mem_append_left _ (List.mem_append_left _ (List.mem_append_left _ (List.mem_of_getElem? (i := 3) rfl)))))))
theorem kX6_swap_1 : Cond.fieldLink RX6 157 "KnapsackCore$Core" "ranked" "LKnapsackCore$Ranked;" ∈ wsX6_swap := (List.mem_cons_of_mem _ (List.mem_append_left _ (List.mem_append_left _ (List.mem_append_left _ (List.mem_append_left _ (List.mem_append_left _ (List.mem_of_getElem? (i := 4) rfl)))))))
theorem kX6_swap_2 : Cond.fieldLink RX6 274 "KnapsackCore$Ranked" "profits" "[I" ∈ wsX6_swap := (List.mem_cons_of_mem _ (List.mem_append_left _ (List.mem_append_left _ (List.mem_append_left _ (List.mem_append_left _ (List.mem_append_left _ (List.mem_of_getElem? (i := 5) rfl)))))))
theorem kX6_swap_3 : Cond.fieldLink RX6 232 "KnapsackCore$Ranked" "itemAt" "[I" ∈ wsX6_swap := (List.mem_cons_of_mem _ (List.mem_append_left _ (List.mem_append_left _ (List.mem_append_left _ (List.mem_append_left _ (List.mem_append_left _ (List.mem_of_getElem? (i := 6) rfl)))))))
theorem kX6_swap_4 : Cond.fieldLink RX6 10 "KnapsackCore" "now" "LKnapsackCore$State;" ∈ wsX6_swap := (List.mem_cons_of_mem _ (List.mem_append_left _ (List.mem_append_left _ (List.mem_append_left _ (List.mem_append_left _ (List.mem_append_left _ (List.mem_of_getElem? (i := 0) rfl)))))))
theorem kX6_swap_5 : Cond.fieldLink RX6 85 "KnapsackCore$State" "load" "LKnapsackCore$Load;" ∈ wsX6_swap := (List.mem_cons_of_mem _ (List.mem_append_left _ (List.mem_append_left _ (List.mem_append_left _ (List.mem_append_left _ (List.mem_append_left _ (List.mem_of_getElem? (i := 1) rfl)))))))
theorem kX6_swap_6 : Cond.fieldLink RX6 98 "KnapsackCore$Load" "items" "I" ∈ wsX6_swap := (List.mem_cons_of_mem _ (List.mem_append_left _ (List.mem_append_left _ (List.mem_append_left _ (List.mem_append_left _ (List.mem_append_left _ (List.mem_of_getElem? (i := 2) rfl)))))))
theorem iX6_swap_X6 : ∀ w ∈ u_ws RX6 TX6 11, w ∈ wsX6_swap := fun w h => (List.mem_cons_of_mem _ (List.mem_append_left _ (List.mem_append_left _ (List.mem_append_left _ (List.mem_append_left _ (List.mem_append_right _ h))))))
theorem iX6_swap_X0 : ∀ w ∈ u_ws RX0 TX0 10, w ∈ wsX6_swap := fun w h => (List.mem_cons_of_mem _ (List.mem_append_left _ (List.mem_append_right _ h)))
theorem iX6_swap_X2 : ∀ w ∈ u_ws RX2 TX2 9, w ∈ wsX6_swap := fun w h => (List.mem_cons_of_mem _ (List.mem_append_right _ h))
theorem iX6_swap_X5 : ∀ w ∈ u_ws RX5 TX5 7, w ∈ wsX6_swap := fun w h => (List.mem_cons_of_mem _ (List.mem_append_left _ (List.mem_append_left _ (List.mem_append_left _ (List.mem_append_right _ h)))))
theorem iX6_swap_X1 : ∀ w ∈ u_ws RX1 TX1 6, w ∈ wsX6_swap := fun w h => (List.mem_cons_of_mem _ (List.mem_append_left _ (List.mem_append_left _ (List.mem_append_right _ h))))
set_option maxHeartbeats 4000000 in
set_option maxRecDepth 100000 in
theorem mtX6_swap (l : Launch) (ad : (Nat → Nat) × (Nat → Nat)) (dC : Nat → ClassId) (dI : Nat → Nat → Nat) (cy : Nat → ClassId) (a_t a_t_now a_t_images a_t_past a_t_core a_t_supposed a_t_trial a_t_reader a_t_front a_t_frontSpare a_t_now_load a_t_now_text a_t_now_shelfWeights a_t_now_shelfProfits a_t_now_load_weights a_t_now_load_profits a_t_core_ranked a_t_core_sets a_t_core_spare a_t_core_ranked_itemAt a_t_core_ranked_placeOf a_t_core_ranked_weights a_t_core_ranked_profits : Nat) (sz : Nat) (t_acts t_frontState t_now_length t_now_fault t_now_faultPlace t_now_load_items t_now_load_room t_now_load_most t_now_load_steps t_core_most t_core_from t_core_to t_core_steps t_core_bestWeight t_core_bestProfit : Int32) (t_core_bestBits : Int64) (t_core_ranked_items t_core_ranked_room t_core_ranked_breakPlace t_core_ranked_breakWeight t_core_ranked_breakProfit : Int32) (t_core_ranked_weights t_core_ranked_profits t_core_ranked_itemAt : Nat → Int32) (v1 : Int32) {post : Int32 → Prop} (h : wX6_swap t_now_load_items t_core_bestWeight t_core_bestBits t_core_ranked_items t_core_ranked_room t_core_ranked_weights t_core_ranked_profits t_core_ranked_itemAt post v1) : xMi l yX6_swap wsX6_swap ({ frames := 2, cells := 0, slots := 0, locals := 47 } : Room) ad (dC, dI) vwCl (xT cy) [.ref a_t, .int v1] [(a_t, .inr (6, [.ref a_t_now, .ref a_t_images, .ref a_t_past, .int t_acts, .ref a_t_core, .ref a_t_supposed, .ref a_t_trial, .ref a_t_reader, .ref a_t_front, .ref a_t_frontSpare, .int t_frontState])), (a_t_now, .inr (5, [.ref a_t_now_load, .ref a_t_now_text, .int t_now_length, .int t_now_fault, .int t_now_faultPlace, .ref a_t_now_shelfWeights, .ref a_t_now_shelfProfits])), (a_t_now_load, .inr (1, [.ref a_t_now_load_weights, .ref a_t_now_load_profits, .int t_now_load_items, .int t_now_load_room, .int t_now_load_most, .int t_now_load_steps])), (a_t_core, .inr (0, [.ref a_t_core_ranked, .ref a_t_core_sets, .ref a_t_core_spare, .int t_core_most, .int t_core_from, .int t_core_to, .int t_core_steps, .int t_core_bestWeight, .int t_core_bestProfit, .long t_core_bestBits])), (a_t_core_ranked, .inr (2, [.ref a_t_core_ranked_itemAt, .ref a_t_core_ranked_placeOf, .ref a_t_core_ranked_weights, .ref a_t_core_ranked_profits, .int t_core_ranked_items, .int t_core_ranked_room, .int t_core_ranked_breakPlace, .int t_core_ranked_breakWeight, .int t_core_ranked_breakProfit])), (a_t_core_ranked_weights, .inl (cy 0, 60, .inl t_core_ranked_weights)), (a_t_core_ranked_profits, .inl (cy 0, 60, .inl t_core_ranked_profits)), (a_t_core_ranked_itemAt, .inl (cy 0, 60, .inl t_core_ranked_itemAt))] sz (fun (r : Int32) (_ : Unit) => post r) (fun (_ : Unit) w => w = [(a_t, .inr (6, [.ref a_t_now, .ref a_t_images, .ref a_t_past, .int t_acts, .ref a_t_core, .ref a_t_supposed, .ref a_t_trial, .ref a_t_reader, .ref a_t_front, .ref a_t_frontSpare, .int t_frontState])), (a_t_now, .inr (5, [.ref a_t_now_load, .ref a_t_now_text, .int t_now_length, .int t_now_fault, .int t_now_faultPlace, .ref a_t_now_shelfWeights, .ref a_t_now_shelfProfits])), (a_t_now_load, .inr (1, [.ref a_t_now_load_weights, .ref a_t_now_load_profits, .int t_now_load_items, .int t_now_load_room, .int t_now_load_most, .int t_now_load_steps])), (a_t_core, .inr (0, [.ref a_t_core_ranked, .ref a_t_core_sets, .ref a_t_core_spare, .int t_core_most, .int t_core_from, .int t_core_to, .int t_core_steps, .int t_core_bestWeight, .int t_core_bestProfit, .long t_core_bestBits])), (a_t_core_ranked, .inr (2, [.ref a_t_core_ranked_itemAt, .ref a_t_core_ranked_placeOf, .ref a_t_core_ranked_weights, .ref a_t_core_ranked_profits, .int t_core_ranked_items, .int t_core_ranked_room, .int t_core_ranked_breakPlace, .int t_core_ranked_breakWeight, .int t_core_ranked_breakProfit])), (a_t_core_ranked_weights, .inl (cy 0, 60, .inl t_core_ranked_weights)), (a_t_core_ranked_profits, .inl (cy 0, 60, .inl t_core_ranked_profits)), (a_t_core_ranked_itemAt, .inl (cy 0, 60, .inl t_core_ranked_itemAt))]) 0 0 := by
  unfold xMi
  refine Met.ofW (cc := cX6_swap) (maxL := 7) (ret := (some .int)) (by decide +kernel) rfl ?_
  intro p e s m args below meth c s₁ B hml hv
  obtain ⟨rfl, hsz, hP, hK, hD0, hE⟩ := hv
  have hx := B.exec
  have hb := B.bytes
  have hr := B.returns
  have hts := atoms_spec (ws := wsX6_swap) B.pre
  have hown : s.vm.findClass RX6 = some m.cls := findClass_of_methodNamed B.named
  have hlocks := B.notSynchronized
  subst hsz
  have hD := hD0.self (sz := s.heap.size)
  generalize hAe : va_A [(a_t, .inr (6, [.ref a_t_now, .ref a_t_images, .ref a_t_past, .int t_acts, .ref a_t_core, .ref a_t_supposed, .ref a_t_trial, .ref a_t_reader, .ref a_t_front, .ref a_t_frontSpare, .int t_frontState])), (a_t_now, .inr (5, [.ref a_t_now_load, .ref a_t_now_text, .int t_now_length, .int t_now_fault, .int t_now_faultPlace, .ref a_t_now_shelfWeights, .ref a_t_now_shelfProfits])), (a_t_now_load, .inr (1, [.ref a_t_now_load_weights, .ref a_t_now_load_profits, .int t_now_load_items, .int t_now_load_room, .int t_now_load_most, .int t_now_load_steps])), (a_t_core, .inr (0, [.ref a_t_core_ranked, .ref a_t_core_sets, .ref a_t_core_spare, .int t_core_most, .int t_core_from, .int t_core_to, .int t_core_steps, .int t_core_bestWeight, .int t_core_bestProfit, .long t_core_bestBits])), (a_t_core_ranked, .inr (2, [.ref a_t_core_ranked_itemAt, .ref a_t_core_ranked_placeOf, .ref a_t_core_ranked_weights, .ref a_t_core_ranked_profits, .int t_core_ranked_items, .int t_core_ranked_room, .int t_core_ranked_breakPlace, .int t_core_ranked_breakWeight, .int t_core_ranked_breakProfit])), (a_t_core_ranked_weights, .inl (cy 0, 60, .inl t_core_ranked_weights)), (a_t_core_ranked_profits, .inl (cy 0, 60, .inl t_core_ranked_profits)), (a_t_core_ranked_itemAt, .inl (cy 0, 60, .inl t_core_ranked_itemAt))] s.heap.size = A at hD hE ⊢
  have hA : ∀ q : Nat, s.heap.size ≤ q → A q := fun q h => by rw [← hAe]; exact Or.inr h
  have hS : va_S A s.heap s.heap [] := va_S.rf
  have hl := lv_entry ([.ref a_t, .int v1]) (n := 7) (Nat.le_of_ble_eq_true rfl)
  rw [lg_entry_eq]
  generalize (lg_sl ([.ref a_t, .int v1]) ++ List.replicate (7 - (lg_sl ([.ref a_t, .int v1])).length) Slot.unset).toArray = ls at hl ⊢
  have hl : lv_has ls 7 [(0, .ref a_t), (1, .int v1)] := hl
  generalize hQ : MQ below _ _ s _ _ _ = Q
  generalize ([.ref a_t, .int v1] : List Value).toArray = args at hts hQ ⊢
  clear B hD0 hAe
  have L21 : ∀ n : Nat, ∀ (v1 v2 v3 v4 v5 : Int32), wX6_swap_21 t_now_load_items t_core_bestWeight t_core_bestBits t_core_ranked_items t_core_ranked_room t_core_ranked_weights t_core_ranked_profits t_core_ranked_itemAt post n v1 v2 v3 v4 v5 → ∀ (H : Heap) (locs : List Loc) (ls : Array Slot), va_P (dC, dI) vwCl [(a_t, .inr (6, [.ref a_t_now, .ref a_t_images, .ref a_t_past, .int t_acts, .ref a_t_core, .ref a_t_supposed, .ref a_t_trial, .ref a_t_reader, .ref a_t_front, .ref a_t_frontSpare, .int t_frontState])), (a_t_now, .inr (5, [.ref a_t_now_load, .ref a_t_now_text, .int t_now_length, .int t_now_fault, .int t_now_faultPlace, .ref a_t_now_shelfWeights, .ref a_t_now_shelfProfits])), (a_t_now_load, .inr (1, [.ref a_t_now_load_weights, .ref a_t_now_load_profits, .int t_now_load_items, .int t_now_load_room, .int t_now_load_most, .int t_now_load_steps])), (a_t_core, .inr (0, [.ref a_t_core_ranked, .ref a_t_core_sets, .ref a_t_core_spare, .int t_core_most, .int t_core_from, .int t_core_to, .int t_core_steps, .int t_core_bestWeight, .int t_core_bestProfit, .long t_core_bestBits])), (a_t_core_ranked, .inr (2, [.ref a_t_core_ranked_itemAt, .ref a_t_core_ranked_placeOf, .ref a_t_core_ranked_weights, .ref a_t_core_ranked_profits, .int t_core_ranked_items, .int t_core_ranked_room, .int t_core_ranked_breakPlace, .int t_core_ranked_breakWeight, .int t_core_ranked_breakProfit])), (a_t_core_ranked_weights, .inl (cy 0, 60, .inl t_core_ranked_weights)), (a_t_core_ranked_profits, .inl (cy 0, 60, .inl t_core_ranked_profits)), (a_t_core_ranked_itemAt, .inl (cy 0, 60, .inl t_core_ranked_itemAt))] H → va_D A [(a_t, .inr (6, [.ref a_t_now, .ref a_t_images, .ref a_t_past, .int t_acts, .ref a_t_core, .ref a_t_supposed, .ref a_t_trial, .ref a_t_reader, .ref a_t_front, .ref a_t_frontSpare, .int t_frontState])), (a_t_now, .inr (5, [.ref a_t_now_load, .ref a_t_now_text, .int t_now_length, .int t_now_fault, .int t_now_faultPlace, .ref a_t_now_shelfWeights, .ref a_t_now_shelfProfits])), (a_t_now_load, .inr (1, [.ref a_t_now_load_weights, .ref a_t_now_load_profits, .int t_now_load_items, .int t_now_load_room, .int t_now_load_most, .int t_now_load_steps])), (a_t_core, .inr (0, [.ref a_t_core_ranked, .ref a_t_core_sets, .ref a_t_core_spare, .int t_core_most, .int t_core_from, .int t_core_to, .int t_core_steps, .int t_core_bestWeight, .int t_core_bestProfit, .long t_core_bestBits])), (a_t_core_ranked, .inr (2, [.ref a_t_core_ranked_itemAt, .ref a_t_core_ranked_placeOf, .ref a_t_core_ranked_weights, .ref a_t_core_ranked_profits, .int t_core_ranked_items, .int t_core_ranked_room, .int t_core_ranked_breakPlace, .int t_core_ranked_breakWeight, .int t_core_ranked_breakProfit])), (a_t_core_ranked_weights, .inl (cy 0, 60, .inl t_core_ranked_weights)), (a_t_core_ranked_profits, .inl (cy 0, 60, .inl t_core_ranked_profits)), (a_t_core_ranked_itemAt, .inl (cy 0, 60, .inl t_core_ranked_itemAt))] → va_S A s.heap H locs → lv_has ls 7 [(0, .ref a_t), (1, .int v1), (2, .int v2), (3, .int v3), (4, .int v4), (5, .int v5)] → W p l e (headSpec wsX6_swap ({ frames := 2, cells := 0, slots := 0, locals := 47 } : Room)).room s m args below meth c H locs 0 0 Q (F0 m 21 ls []) := by
    intro n
    induction n with
    | zero => intro v1 v2 v3 v4 v5 h; exact False.elim h
    | succ n21 ih21 =>
      have C154 : ∀ (v1 v2 v3 v4 v5 : Int32), wX6_swap_154 t_now_load_items t_core_bestWeight t_core_bestBits t_core_ranked_items t_core_ranked_room t_core_ranked_weights t_core_ranked_profits t_core_ranked_itemAt (wX6_swap_21 t_now_load_items t_core_bestWeight t_core_bestBits t_core_ranked_items t_core_ranked_room t_core_ranked_weights t_core_ranked_profits t_core_ranked_itemAt post n21) post v1 v2 v3 v4 v5 → ∀ (H : Heap) (locs : List Loc) (ls : Array Slot), va_P (dC, dI) vwCl [(a_t, .inr (6, [.ref a_t_now, .ref a_t_images, .ref a_t_past, .int t_acts, .ref a_t_core, .ref a_t_supposed, .ref a_t_trial, .ref a_t_reader, .ref a_t_front, .ref a_t_frontSpare, .int t_frontState])), (a_t_now, .inr (5, [.ref a_t_now_load, .ref a_t_now_text, .int t_now_length, .int t_now_fault, .int t_now_faultPlace, .ref a_t_now_shelfWeights, .ref a_t_now_shelfProfits])), (a_t_now_load, .inr (1, [.ref a_t_now_load_weights, .ref a_t_now_load_profits, .int t_now_load_items, .int t_now_load_room, .int t_now_load_most, .int t_now_load_steps])), (a_t_core, .inr (0, [.ref a_t_core_ranked, .ref a_t_core_sets, .ref a_t_core_spare, .int t_core_most, .int t_core_from, .int t_core_to, .int t_core_steps, .int t_core_bestWeight, .int t_core_bestProfit, .long t_core_bestBits])), (a_t_core_ranked, .inr (2, [.ref a_t_core_ranked_itemAt, .ref a_t_core_ranked_placeOf, .ref a_t_core_ranked_weights, .ref a_t_core_ranked_profits, .int t_core_ranked_items, .int t_core_ranked_room, .int t_core_ranked_breakPlace, .int t_core_ranked_breakWeight, .int t_core_ranked_breakProfit])), (a_t_core_ranked_weights, .inl (cy 0, 60, .inl t_core_ranked_weights)), (a_t_core_ranked_profits, .inl (cy 0, 60, .inl t_core_ranked_profits)), (a_t_core_ranked_itemAt, .inl (cy 0, 60, .inl t_core_ranked_itemAt))] H → va_D A [(a_t, .inr (6, [.ref a_t_now, .ref a_t_images, .ref a_t_past, .int t_acts, .ref a_t_core, .ref a_t_supposed, .ref a_t_trial, .ref a_t_reader, .ref a_t_front, .ref a_t_frontSpare, .int t_frontState])), (a_t_now, .inr (5, [.ref a_t_now_load, .ref a_t_now_text, .int t_now_length, .int t_now_fault, .int t_now_faultPlace, .ref a_t_now_shelfWeights, .ref a_t_now_shelfProfits])), (a_t_now_load, .inr (1, [.ref a_t_now_load_weights, .ref a_t_now_load_profits, .int t_now_load_items, .int t_now_load_room, .int t_now_load_most, .int t_now_load_steps])), (a_t_core, .inr (0, [.ref a_t_core_ranked, .ref a_t_core_sets, .ref a_t_core_spare, .int t_core_most, .int t_core_from, .int t_core_to, .int t_core_steps, .int t_core_bestWeight, .int t_core_bestProfit, .long t_core_bestBits])), (a_t_core_ranked, .inr (2, [.ref a_t_core_ranked_itemAt, .ref a_t_core_ranked_placeOf, .ref a_t_core_ranked_weights, .ref a_t_core_ranked_profits, .int t_core_ranked_items, .int t_core_ranked_room, .int t_core_ranked_breakPlace, .int t_core_ranked_breakWeight, .int t_core_ranked_breakProfit])), (a_t_core_ranked_weights, .inl (cy 0, 60, .inl t_core_ranked_weights)), (a_t_core_ranked_profits, .inl (cy 0, 60, .inl t_core_ranked_profits)), (a_t_core_ranked_itemAt, .inl (cy 0, 60, .inl t_core_ranked_itemAt))] → va_S A s.heap H locs → lv_has ls 7 [(0, .ref a_t), (1, .int v1), (2, .int v2), (3, .int v3), (4, .int v4), (5, .int v5)] → W p l e (headSpec wsX6_swap ({ frames := 2, cells := 0, slots := 0, locals := 47 } : Room)).room s m args below meth c H locs 0 0 Q (F0 m 154 ls []) := by
        intro v1 v2 v3 v4 v5 h H locs ls hP hD hS hl
        refine lv_iinc (v := (v5 + (1 : Int32))) (lv' := [(5, .int (v5 + (1 : Int32))), (0, .ref a_t), (1, .int v1), (2, .int v2), (3, .int v3), (4, .int v4)]) hx hb dX6_swap_154 hl (k := 5) rfl rfl (by decide) rfl (fun ls hl => ?_)
        refine lv_goto (tgt := 21) hx hb dX6_swap_157 (by decide) ?_
        exact ih21 v1 v2 v3 v4 (v5 + (1 : Int32)) h _ _ _ (x_sub hP [0, 1, 2, 3, 4, 5, 6, 7] rfl) (hD.sub [0, 1, 2, 3, 4, 5, 6, 7] (by decide) rfl) hS (lv_sub hl [1, 2, 3, 4, 5, 0] rfl)
      have C58 : ∀ (v1 v2 v3 v4 v5 k0 : Int32), wX6_swap_58 t_now_load_items t_core_bestWeight t_core_bestBits t_core_ranked_items t_core_ranked_room t_core_ranked_weights t_core_ranked_profits t_core_ranked_itemAt (wX6_swap_21 t_now_load_items t_core_bestWeight t_core_bestBits t_core_ranked_items t_core_ranked_room t_core_ranked_weights t_core_ranked_profits t_core_ranked_itemAt post n21) post v1 v2 v3 v4 v5 k0 → ∀ (H : Heap) (locs : List Loc) (ls : Array Slot), va_P (dC, dI) vwCl [(a_t, .inr (6, [.ref a_t_now, .ref a_t_images, .ref a_t_past, .int t_acts, .ref a_t_core, .ref a_t_supposed, .ref a_t_trial, .ref a_t_reader, .ref a_t_front, .ref a_t_frontSpare, .int t_frontState])), (a_t_now, .inr (5, [.ref a_t_now_load, .ref a_t_now_text, .int t_now_length, .int t_now_fault, .int t_now_faultPlace, .ref a_t_now_shelfWeights, .ref a_t_now_shelfProfits])), (a_t_now_load, .inr (1, [.ref a_t_now_load_weights, .ref a_t_now_load_profits, .int t_now_load_items, .int t_now_load_room, .int t_now_load_most, .int t_now_load_steps])), (a_t_core, .inr (0, [.ref a_t_core_ranked, .ref a_t_core_sets, .ref a_t_core_spare, .int t_core_most, .int t_core_from, .int t_core_to, .int t_core_steps, .int t_core_bestWeight, .int t_core_bestProfit, .long t_core_bestBits])), (a_t_core_ranked, .inr (2, [.ref a_t_core_ranked_itemAt, .ref a_t_core_ranked_placeOf, .ref a_t_core_ranked_weights, .ref a_t_core_ranked_profits, .int t_core_ranked_items, .int t_core_ranked_room, .int t_core_ranked_breakPlace, .int t_core_ranked_breakWeight, .int t_core_ranked_breakProfit])), (a_t_core_ranked_weights, .inl (cy 0, 60, .inl t_core_ranked_weights)), (a_t_core_ranked_profits, .inl (cy 0, 60, .inl t_core_ranked_profits)), (a_t_core_ranked_itemAt, .inl (cy 0, 60, .inl t_core_ranked_itemAt))] H → va_D A [(a_t, .inr (6, [.ref a_t_now, .ref a_t_images, .ref a_t_past, .int t_acts, .ref a_t_core, .ref a_t_supposed, .ref a_t_trial, .ref a_t_reader, .ref a_t_front, .ref a_t_frontSpare, .int t_frontState])), (a_t_now, .inr (5, [.ref a_t_now_load, .ref a_t_now_text, .int t_now_length, .int t_now_fault, .int t_now_faultPlace, .ref a_t_now_shelfWeights, .ref a_t_now_shelfProfits])), (a_t_now_load, .inr (1, [.ref a_t_now_load_weights, .ref a_t_now_load_profits, .int t_now_load_items, .int t_now_load_room, .int t_now_load_most, .int t_now_load_steps])), (a_t_core, .inr (0, [.ref a_t_core_ranked, .ref a_t_core_sets, .ref a_t_core_spare, .int t_core_most, .int t_core_from, .int t_core_to, .int t_core_steps, .int t_core_bestWeight, .int t_core_bestProfit, .long t_core_bestBits])), (a_t_core_ranked, .inr (2, [.ref a_t_core_ranked_itemAt, .ref a_t_core_ranked_placeOf, .ref a_t_core_ranked_weights, .ref a_t_core_ranked_profits, .int t_core_ranked_items, .int t_core_ranked_room, .int t_core_ranked_breakPlace, .int t_core_ranked_breakWeight, .int t_core_ranked_breakProfit])), (a_t_core_ranked_weights, .inl (cy 0, 60, .inl t_core_ranked_weights)), (a_t_core_ranked_profits, .inl (cy 0, 60, .inl t_core_ranked_profits)), (a_t_core_ranked_itemAt, .inl (cy 0, 60, .inl t_core_ranked_itemAt))] → va_S A s.heap H locs → lv_has ls 7 [(0, .ref a_t), (1, .int v1), (2, .int v2), (3, .int v3), (4, .int v4), (5, .int v5)] → W p l e (headSpec wsX6_swap ({ frames := 2, cells := 0, slots := 0, locals := 47 } : Room)).room s m args below meth c H locs 0 0 Q (F0 m 58 ls [.int k0]) := by
        intro v1 v2 v3 v4 v5 k0 h H locs ls hP hD hS hl
        refine lv_istore (lv' := [(6, .int k0), (0, .ref a_t), (1, .int v1), (2, .int v2), (3, .int v3), (4, .int v4), (5, .int v5)]) hx hb dX6_swap_58 hl (by decide) rfl (fun ls hl => ?_)
        refine lv_iload hx hb dX6_swap_60 (lv_at hl 0 rfl) ?_
        refine lv_iconst (v := -1) hx hb dX6_swap_62 (by decide) ?_
        refine lv_icmp_eq (tgt := 154) hx hb dX6_swap_63 (by decide) (fun c_1 => ?_) (fun c_1 => ?_)
        · replace h := h.1 c_1
          exact C154 v1 v2 v3 v4 v5 h _ _ _ (x_sub hP [0, 1, 2, 3, 4, 5, 6, 7] rfl) (hD.sub [0, 1, 2, 3, 4, 5, 6, 7] (by decide) rfl) hS (lv_sub hl [1, 2, 3, 4, 5, 6] rfl)
        · replace h := h.2 c_1
          refine lv_aload_n hx hb dX6_swap_66 rfl (lv_at hl 1 rfl) ?_
          refine va_get (D := (dC, dI)) (ci := 6) (v := .ref a_t_core) (C := RX6) (T := TX6) (N := 11) hx hb hts iX6_swap_X6 hown hK hP 0 rfl rfl 4 (Nat.le_of_ble_eq_true rfl) (hts _ kX6_swap_0) (fun _ h9 => h9) rfl dX6_swap_67 ?_
          refine va_get (D := (dC, dI)) (ci := 0) (v := .ref a_t_core_ranked) (C := RX0) (T := TX0) (N := 10) hx hb hts iX6_swap_X0 hown hK hP 3 rfl rfl 0 (Nat.le_of_ble_eq_true rfl) (hts _ kX6_swap_1) (fun _ h9 => h9) rfl dX6_swap_70 ?_
          refine va_get (D := (dC, dI)) (ci := 2) (v := .ref a_t_core_ranked_profits) (C := RX2) (T := TX2) (N := 9) hx hb hts iX6_swap_X2 hown hK hP 4 rfl rfl 3 (Nat.le_of_ble_eq_true rfl) (hts _ kX6_swap_2) (fun _ h9 => h9) rfl dX6_swap_73 ?_
          refine lv_iload hx hb dX6_swap_76 (lv_at hl 0 rfl) ?_
          refine va_iald (D := (dC, dI)) hx hb hK hP 6 0 rfl rfl h.1 dX6_swap_78 ?_
          replace h := h.2
          refine lv_aload_n hx hb dX6_swap_79 rfl (lv_at hl 1 rfl) ?_
          refine va_get (D := (dC, dI)) (ci := 6) (v := .ref a_t_core) (C := RX6) (T := TX6) (N := 11) hx hb hts iX6_swap_X6 hown hK hP 0 rfl rfl 4 (Nat.le_of_ble_eq_true rfl) (hts _ kX6_swap_0) (fun _ h9 => h9) rfl dX6_swap_80 ?_
          refine va_get (D := (dC, dI)) (ci := 0) (v := .ref a_t_core_ranked) (C := RX0) (T := TX0) (N := 10) hx hb hts iX6_swap_X0 hown hK hP 3 rfl rfl 0 (Nat.le_of_ble_eq_true rfl) (hts _ kX6_swap_1) (fun _ h9 => h9) rfl dX6_swap_83 ?_
          refine va_get (D := (dC, dI)) (ci := 2) (v := .ref a_t_core_ranked_profits) (C := RX2) (T := TX2) (N := 9) hx hb hts iX6_swap_X2 hown hK hP 4 rfl rfl 3 (Nat.le_of_ble_eq_true rfl) (hts _ kX6_swap_2) (fun _ h9 => h9) rfl dX6_swap_86 ?_
          refine lv_iload hx hb dX6_swap_89 (lv_at hl 6 rfl) ?_
          refine va_iald (D := (dC, dI)) hx hb hK hP 6 0 rfl rfl h.1 dX6_swap_91 ?_
          replace h := h.2
          refine lv_isub hx hb dX6_swap_92 ?_
          refine lv_iload_n hx hb dX6_swap_93 rfl (lv_at hl 3 rfl) ?_
          refine lv_icmp_le (tgt := 154) hx hb dX6_swap_94 (by decide) (fun c_2 => ?_) (fun c_2 => ?_)
          · replace h := h.1 c_2
            exact C154 v1 v2 v3 v4 v5 h _ _ _ (x_sub hP [0, 1, 2, 3, 4, 5, 6, 7] rfl) (hD.sub [0, 1, 2, 3, 4, 5, 6, 7] (by decide) rfl) hS (lv_sub hl [1, 2, 3, 4, 5, 6] rfl)
          · replace h := h.2 c_2
            refine lv_aload_n hx hb dX6_swap_97 rfl (lv_at hl 1 rfl) ?_
            refine va_get (D := (dC, dI)) (ci := 6) (v := .ref a_t_core) (C := RX6) (T := TX6) (N := 11) hx hb hts iX6_swap_X6 hown hK hP 0 rfl rfl 4 (Nat.le_of_ble_eq_true rfl) (hts _ kX6_swap_0) (fun _ h9 => h9) rfl dX6_swap_98 ?_
            refine va_get (D := (dC, dI)) (ci := 0) (v := .ref a_t_core_ranked) (C := RX0) (T := TX0) (N := 10) hx hb hts iX6_swap_X0 hown hK hP 3 rfl rfl 0 (Nat.le_of_ble_eq_true rfl) (hts _ kX6_swap_1) (fun _ h9 => h9) rfl dX6_swap_101 ?_
            refine va_get (D := (dC, dI)) (ci := 2) (v := .ref a_t_core_ranked_profits) (C := RX2) (T := TX2) (N := 9) hx hb hts iX6_swap_X2 hown hK hP 4 rfl rfl 3 (Nat.le_of_ble_eq_true rfl) (hts _ kX6_swap_2) (fun _ h9 => h9) rfl dX6_swap_104 ?_
            refine lv_iload hx hb dX6_swap_107 (lv_at hl 0 rfl) ?_
            refine va_iald (D := (dC, dI)) hx hb hK hP 6 0 rfl rfl h.1 dX6_swap_109 ?_
            replace h := h.2
            refine lv_aload_n hx hb dX6_swap_110 rfl (lv_at hl 1 rfl) ?_
            refine va_get (D := (dC, dI)) (ci := 6) (v := .ref a_t_core) (C := RX6) (T := TX6) (N := 11) hx hb hts iX6_swap_X6 hown hK hP 0 rfl rfl 4 (Nat.le_of_ble_eq_true rfl) (hts _ kX6_swap_0) (fun _ h9 => h9) rfl dX6_swap_111 ?_
            refine va_get (D := (dC, dI)) (ci := 0) (v := .ref a_t_core_ranked) (C := RX0) (T := TX0) (N := 10) hx hb hts iX6_swap_X0 hown hK hP 3 rfl rfl 0 (Nat.le_of_ble_eq_true rfl) (hts _ kX6_swap_1) (fun _ h9 => h9) rfl dX6_swap_114 ?_
            refine va_get (D := (dC, dI)) (ci := 2) (v := .ref a_t_core_ranked_profits) (C := RX2) (T := TX2) (N := 9) hx hb hts iX6_swap_X2 hown hK hP 4 rfl rfl 3 (Nat.le_of_ble_eq_true rfl) (hts _ kX6_swap_2) (fun _ h9 => h9) rfl dX6_swap_117 ?_
            refine lv_iload hx hb dX6_swap_120 (lv_at hl 6 rfl) ?_
            refine va_iald (D := (dC, dI)) hx hb hK hP 6 0 rfl rfl h.1 dX6_swap_122 ?_
            replace h := h.2
            refine lv_isub hx hb dX6_swap_123 ?_
            refine lv_istore_n (lv' := [(2, .int ((t_core_ranked_profits (k0).toNatClampNeg) - (t_core_ranked_profits (v5).toNatClampNeg))), (6, .int k0), (0, .ref a_t), (1, .int v1), (3, .int v3), (4, .int v4), (5, .int v5)]) hx hb dX6_swap_124 rfl hl (by decide) rfl (fun ls hl => ?_)
            refine lv_aload_n hx hb dX6_swap_125 rfl (lv_at hl 2 rfl) ?_
            refine va_get (D := (dC, dI)) (ci := 6) (v := .ref a_t_core) (C := RX6) (T := TX6) (N := 11) hx hb hts iX6_swap_X6 hown hK hP 0 rfl rfl 4 (Nat.le_of_ble_eq_true rfl) (hts _ kX6_swap_0) (fun _ h9 => h9) rfl dX6_swap_126 ?_
            refine va_get (D := (dC, dI)) (ci := 0) (v := .ref a_t_core_ranked) (C := RX0) (T := TX0) (N := 10) hx hb hts iX6_swap_X0 hown hK hP 3 rfl rfl 0 (Nat.le_of_ble_eq_true rfl) (hts _ kX6_swap_1) (fun _ h9 => h9) rfl dX6_swap_129 ?_
            refine va_get (D := (dC, dI)) (ci := 2) (v := .ref a_t_core_ranked_itemAt) (C := RX2) (T := TX2) (N := 9) hx hb hts iX6_swap_X2 hown hK hP 4 rfl rfl 0 (Nat.le_of_ble_eq_true rfl) (hts _ kX6_swap_3) (fun _ h9 => h9) rfl dX6_swap_132 ?_
            refine lv_iload hx hb dX6_swap_135 (lv_at hl 6 rfl) ?_
            refine va_iald (D := (dC, dI)) hx hb hK hP 7 0 rfl rfl h.1 dX6_swap_137 ?_
            replace h := h.2
            refine lv_istore_n (lv' := [(3, .int (t_core_ranked_itemAt (v5).toNatClampNeg)), (2, .int ((t_core_ranked_profits (k0).toNatClampNeg) - (t_core_ranked_profits (v5).toNatClampNeg))), (6, .int k0), (0, .ref a_t), (1, .int v1), (4, .int v4), (5, .int v5)]) hx hb dX6_swap_138 rfl hl (by decide) rfl (fun ls hl => ?_)
            refine lv_aload_n hx hb dX6_swap_139 rfl (lv_at hl 3 rfl) ?_
            refine va_get (D := (dC, dI)) (ci := 6) (v := .ref a_t_core) (C := RX6) (T := TX6) (N := 11) hx hb hts iX6_swap_X6 hown hK hP 0 rfl rfl 4 (Nat.le_of_ble_eq_true rfl) (hts _ kX6_swap_0) (fun _ h9 => h9) rfl dX6_swap_140 ?_
            refine va_get (D := (dC, dI)) (ci := 0) (v := .ref a_t_core_ranked) (C := RX0) (T := TX0) (N := 10) hx hb hts iX6_swap_X0 hown hK hP 3 rfl rfl 0 (Nat.le_of_ble_eq_true rfl) (hts _ kX6_swap_1) (fun _ h9 => h9) rfl dX6_swap_143 ?_
            refine va_get (D := (dC, dI)) (ci := 2) (v := .ref a_t_core_ranked_itemAt) (C := RX2) (T := TX2) (N := 9) hx hb hts iX6_swap_X2 hown hK hP 4 rfl rfl 0 (Nat.le_of_ble_eq_true rfl) (hts _ kX6_swap_3) (fun _ h9 => h9) rfl dX6_swap_146 ?_
            refine lv_iload hx hb dX6_swap_149 (lv_at hl 2 rfl) ?_
            refine va_iald (D := (dC, dI)) hx hb hK hP 7 0 rfl rfl h.1 dX6_swap_151 ?_
            replace h := h.2
            refine lv_istore (lv' := [(4, .int (t_core_ranked_itemAt (k0).toNatClampNeg)), (3, .int (t_core_ranked_itemAt (v5).toNatClampNeg)), (2, .int ((t_core_ranked_profits (k0).toNatClampNeg) - (t_core_ranked_profits (v5).toNatClampNeg))), (6, .int k0), (0, .ref a_t), (1, .int v1), (5, .int v5)]) hx hb dX6_swap_152 hl (by decide) rfl (fun ls hl => ?_)
            exact C154 v1 ((t_core_ranked_profits (k0).toNatClampNeg) - (t_core_ranked_profits (v5).toNatClampNeg)) (t_core_ranked_itemAt (v5).toNatClampNeg) (t_core_ranked_itemAt (k0).toNatClampNeg) v5 h _ _ _ (x_sub hP [0, 1, 2, 3, 4, 5, 6, 7] rfl) (hD.sub [0, 1, 2, 3, 4, 5, 6, 7] (by decide) rfl) hS (lv_sub hl [4, 5, 2, 1, 0, 6] rfl)
      intro v1 v2 v3 v4 v5 h H locs ls hP hD hS hl
      replace h : wX6_swap_21_b t_now_load_items t_core_bestWeight t_core_bestBits t_core_ranked_items t_core_ranked_room t_core_ranked_weights t_core_ranked_profits t_core_ranked_itemAt post (wX6_swap_21 t_now_load_items t_core_bestWeight t_core_bestBits t_core_ranked_items t_core_ranked_room t_core_ranked_weights t_core_ranked_profits t_core_ranked_itemAt post n21) v1 v2 v3 v4 v5 := h
      refine lv_iload hx hb dX6_swap_21 (lv_at hl 5 rfl) ?_
      refine lv_aload_n hx hb dX6_swap_23 rfl (lv_at hl 0 rfl) ?_
      refine va_get (D := (dC, dI)) (ci := 6) (v := .ref a_t_now) (C := RX6) (T := TX6) (N := 11) hx hb hts iX6_swap_X6 hown hK hP 0 rfl rfl 0 (Nat.le_of_ble_eq_true rfl) (hts _ kX6_swap_4) (fun _ h9 => h9) rfl dX6_swap_24 ?_
      refine va_get (D := (dC, dI)) (ci := 5) (v := .ref a_t_now_load) (C := RX5) (T := TX5) (N := 7) hx hb hts iX6_swap_X5 hown hK hP 1 rfl rfl 0 (Nat.le_of_ble_eq_true rfl) (hts _ kX6_swap_5) (fun _ h9 => h9) rfl dX6_swap_27 ?_
      refine va_get (D := (dC, dI)) (ci := 1) (v := .int t_now_load_items) (C := RX1) (T := TX1) (N := 6) hx hb hts iX6_swap_X1 hown hK hP 2 rfl rfl 2 (Nat.le_of_ble_eq_true rfl) (hts _ kX6_swap_6) (fun _ h9 => h9) rfl dX6_swap_30 ?_
      refine lv_icmp_ge (tgt := 160) hx hb dX6_swap_33 (by decide) (fun c_3 => ?_) (fun c_3 => ?_)
      · replace h := h.1 c_3
        refine lv_iload_n hx hb dX6_swap_160 rfl (lv_at hl 1 rfl) ?_
        refine lv_if_ne (tgt := 166) hx hb dX6_swap_161 (by decide) (fun c_4 => ?_) (fun c_4 => ?_)
        · replace h := h.2 c_4
          refine lv_iload_n hx hb dX6_swap_166 rfl (lv_at hl 1 rfl) ?_
          refine lv_iconst (v := 1) hx hb dX6_swap_167 (by decide) ?_
          refine lv_icmp_ne (tgt := 175) hx hb dX6_swap_168 (by decide) (fun c_5 => ?_) (fun c_5 => ?_)
          · replace h := h.2 c_5
            refine lv_iload hx hb dX6_swap_175 (lv_at hl 4 rfl) ?_
            rw [← hQ]
            exact W.iret (v := v4) hx hb hr (fun t ht hW => ⟨⟨v4, (), rfl, h, x_end (w1 := [(a_t, .inr (6, [.ref a_t_now, .ref a_t_images, .ref a_t_past, .int t_acts, .ref a_t_core, .ref a_t_supposed, .ref a_t_trial, .ref a_t_reader, .ref a_t_front, .ref a_t_frontSpare, .int t_frontState])), (a_t_now, .inr (5, [.ref a_t_now_load, .ref a_t_now_text, .int t_now_length, .int t_now_fault, .int t_now_faultPlace, .ref a_t_now_shelfWeights, .ref a_t_now_shelfProfits])), (a_t_now_load, .inr (1, [.ref a_t_now_load_weights, .ref a_t_now_load_profits, .int t_now_load_items, .int t_now_load_room, .int t_now_load_most, .int t_now_load_steps])), (a_t_core, .inr (0, [.ref a_t_core_ranked, .ref a_t_core_sets, .ref a_t_core_spare, .int t_core_most, .int t_core_from, .int t_core_to, .int t_core_steps, .int t_core_bestWeight, .int t_core_bestProfit, .long t_core_bestBits])), (a_t_core_ranked, .inr (2, [.ref a_t_core_ranked_itemAt, .ref a_t_core_ranked_placeOf, .ref a_t_core_ranked_weights, .ref a_t_core_ranked_profits, .int t_core_ranked_items, .int t_core_ranked_room, .int t_core_ranked_breakPlace, .int t_core_ranked_breakWeight, .int t_core_ranked_breakProfit])), (a_t_core_ranked_weights, .inl (cy 0, 60, .inl t_core_ranked_weights)), (a_t_core_ranked_profits, .inl (cy 0, 60, .inl t_core_ranked_profits)), (a_t_core_ranked_itemAt, .inl (cy 0, 60, .inl t_core_ranked_itemAt))]) hP hD hK [0, 1, 2, 3, 4, 5, 6, 7] rfl (by decide) rfl ht hW⟩, hS.F ht⟩) hS.2.2 dX6_swap_177
          · replace h := h.1 c_5
            refine lv_iload_n hx hb dX6_swap_171 rfl (lv_at hl 3 rfl) ?_
            refine lv_goto (tgt := 177) hx hb dX6_swap_172 (by decide) ?_
            rw [← hQ]
            exact W.iret (v := v3) hx hb hr (fun t ht hW => ⟨⟨v3, (), rfl, h, x_end (w1 := [(a_t, .inr (6, [.ref a_t_now, .ref a_t_images, .ref a_t_past, .int t_acts, .ref a_t_core, .ref a_t_supposed, .ref a_t_trial, .ref a_t_reader, .ref a_t_front, .ref a_t_frontSpare, .int t_frontState])), (a_t_now, .inr (5, [.ref a_t_now_load, .ref a_t_now_text, .int t_now_length, .int t_now_fault, .int t_now_faultPlace, .ref a_t_now_shelfWeights, .ref a_t_now_shelfProfits])), (a_t_now_load, .inr (1, [.ref a_t_now_load_weights, .ref a_t_now_load_profits, .int t_now_load_items, .int t_now_load_room, .int t_now_load_most, .int t_now_load_steps])), (a_t_core, .inr (0, [.ref a_t_core_ranked, .ref a_t_core_sets, .ref a_t_core_spare, .int t_core_most, .int t_core_from, .int t_core_to, .int t_core_steps, .int t_core_bestWeight, .int t_core_bestProfit, .long t_core_bestBits])), (a_t_core_ranked, .inr (2, [.ref a_t_core_ranked_itemAt, .ref a_t_core_ranked_placeOf, .ref a_t_core_ranked_weights, .ref a_t_core_ranked_profits, .int t_core_ranked_items, .int t_core_ranked_room, .int t_core_ranked_breakPlace, .int t_core_ranked_breakWeight, .int t_core_ranked_breakProfit])), (a_t_core_ranked_weights, .inl (cy 0, 60, .inl t_core_ranked_weights)), (a_t_core_ranked_profits, .inl (cy 0, 60, .inl t_core_ranked_profits)), (a_t_core_ranked_itemAt, .inl (cy 0, 60, .inl t_core_ranked_itemAt))]) hP hD hK [0, 1, 2, 3, 4, 5, 6, 7] rfl (by decide) rfl ht hW⟩, hS.F ht⟩) hS.2.2 dX6_swap_177
        · replace h := h.1 c_4
          refine lv_iload_n hx hb dX6_swap_164 rfl (lv_at hl 2 rfl) ?_
          rw [← hQ]
          exact W.iret (v := v2) hx hb hr (fun t ht hW => ⟨⟨v2, (), rfl, h, x_end (w1 := [(a_t, .inr (6, [.ref a_t_now, .ref a_t_images, .ref a_t_past, .int t_acts, .ref a_t_core, .ref a_t_supposed, .ref a_t_trial, .ref a_t_reader, .ref a_t_front, .ref a_t_frontSpare, .int t_frontState])), (a_t_now, .inr (5, [.ref a_t_now_load, .ref a_t_now_text, .int t_now_length, .int t_now_fault, .int t_now_faultPlace, .ref a_t_now_shelfWeights, .ref a_t_now_shelfProfits])), (a_t_now_load, .inr (1, [.ref a_t_now_load_weights, .ref a_t_now_load_profits, .int t_now_load_items, .int t_now_load_room, .int t_now_load_most, .int t_now_load_steps])), (a_t_core, .inr (0, [.ref a_t_core_ranked, .ref a_t_core_sets, .ref a_t_core_spare, .int t_core_most, .int t_core_from, .int t_core_to, .int t_core_steps, .int t_core_bestWeight, .int t_core_bestProfit, .long t_core_bestBits])), (a_t_core_ranked, .inr (2, [.ref a_t_core_ranked_itemAt, .ref a_t_core_ranked_placeOf, .ref a_t_core_ranked_weights, .ref a_t_core_ranked_profits, .int t_core_ranked_items, .int t_core_ranked_room, .int t_core_ranked_breakPlace, .int t_core_ranked_breakWeight, .int t_core_ranked_breakProfit])), (a_t_core_ranked_weights, .inl (cy 0, 60, .inl t_core_ranked_weights)), (a_t_core_ranked_profits, .inl (cy 0, 60, .inl t_core_ranked_profits)), (a_t_core_ranked_itemAt, .inl (cy 0, 60, .inl t_core_ranked_itemAt))]) hP hD hK [0, 1, 2, 3, 4, 5, 6, 7] rfl (by decide) rfl ht hW⟩, hS.F ht⟩) hS.2.2 dX6_swap_165
      · replace h := h.2 c_3
        refine lv_aload_n hx hb dX6_swap_36 rfl (lv_at hl 0 rfl) ?_
        refine va_get (D := (dC, dI)) (ci := 6) (v := .ref a_t_core) (C := RX6) (T := TX6) (N := 11) hx hb hts iX6_swap_X6 hown hK hP 0 rfl rfl 4 (Nat.le_of_ble_eq_true rfl) (hts _ kX6_swap_0) (fun _ h9 => h9) rfl dX6_swap_37 ?_
        refine lv_iload hx hb dX6_swap_40 (lv_at hl 5 rfl) ?_
        refine xVi0 (As := [.int v5]) (rest := []) ⟨hx, hb, hml, hown, hts⟩ (mtX0_bestHas l ad dC dI cy a_t_core a_t_core_ranked a_t_core_sets a_t_core_spare a_t_core_ranked_itemAt a_t_core_ranked_placeOf a_t_core_ranked_weights a_t_core_ranked_profits _ t_core_most t_core_from t_core_to t_core_steps t_core_bestWeight t_core_bestProfit t_core_bestBits t_core_ranked_items t_core_ranked_room t_core_ranked_breakPlace t_core_ranked_breakWeight t_core_ranked_breakProfit v5 h) (cwV 1 hts gX6_swap_X0_bestHas rfl rfl rfl qX0_bestHas ⟨Nat.le_of_ble_eq_true rfl, Nat.le_of_ble_eq_true rfl⟩) hE hK hP hD hS hA 0 0 rfl rfl rfl [3, 4] rfl (by decide) rfl hl.1 rfl (Nat.le_of_ble_eq_true rfl) dX6_swap_42 ⟨Nat.le_refl _, Nat.le_refl _⟩ (fun r42 H locs h hP hS => ?_)
        try dsimp only at h
        refine lv_if_eq (tgt := 57) hx hb dX6_swap_45 (by decide) (fun c_6 => ?_) (fun c_6 => ?_)
        · replace h := h.1 c_6
          refine lv_iconst (v := -1) hx hb dX6_swap_57 (by decide) ?_
          exact C58 v1 v2 v3 v4 v5 (-1 : Int32) h _ _ _ (x_sub hP [0, 1, 2, 3, 4, 5, 6, 7] rfl) (hD.sub [0, 1, 2, 3, 4, 5, 6, 7] (by decide) rfl) hS (lv_sub hl [0, 1, 2, 3, 4, 5] rfl)
        · replace h := h.2 c_6
          refine lv_aload_n hx hb dX6_swap_48 rfl (lv_at hl 0 rfl) ?_
          refine lv_iload hx hb dX6_swap_49 (lv_at hl 5 rfl) ?_
          refine xVi0 (As := [.int v5]) (rest := []) ⟨hx, hb, hml, hown, hts⟩ (mtX6_bestInsteadOf l ad dC dI cy a_t a_t_now a_t_images a_t_past a_t_core a_t_supposed a_t_trial a_t_reader a_t_front a_t_frontSpare a_t_core_ranked a_t_core_sets a_t_core_spare a_t_core_ranked_itemAt a_t_core_ranked_placeOf a_t_core_ranked_weights a_t_core_ranked_profits _ t_acts t_frontState t_core_most t_core_from t_core_to t_core_steps t_core_bestWeight t_core_bestProfit t_core_bestBits t_core_ranked_items t_core_ranked_room t_core_ranked_breakPlace t_core_ranked_breakWeight t_core_ranked_breakProfit t_core_ranked_weights t_core_ranked_profits v5 h) (cwV 1 hts gX6_swap_X6_bestInsteadOf rfl rfl rfl qX6_bestInsteadOf ⟨Nat.le_of_ble_eq_true rfl, Nat.le_of_ble_eq_true rfl⟩) hE hK hP hD hS hA 6 0 rfl rfl rfl [0, 3, 4, 5, 6] rfl (by decide) rfl hl.1 rfl (Nat.le_of_ble_eq_true rfl) dX6_swap_51 ⟨Nat.le_refl _, Nat.le_refl _⟩ (fun r51 H locs h hP hS => ?_)
          try dsimp only at h
          refine lv_goto (tgt := 58) hx hb dX6_swap_54 (by decide) ?_
          exact C58 v1 v2 v3 v4 v5 r51 h _ _ _ (x_sub hP [0, 1, 2, 3, 4, 5, 6, 7] rfl) (hD.sub [0, 1, 2, 3, 4, 5, 6, 7] (by decide) rfl) hS (lv_sub hl [0, 1, 2, 3, 4, 5] rfl)
  refine lv_iload_n hx hb dX6_swap_0 rfl (lv_at hl 1 rfl) ?_
  refine lv_if_lt (tgt := 9) hx hb dX6_swap_1 (by decide) (fun c_7 => ?_) (fun c_7 => ?_)
  · replace h := h.1 c_7
    refine lv_iconst (v := -1) hx hb dX6_swap_9 (by decide) ?_
    rw [← hQ]
    exact W.iret (v := (-1 : Int32)) hx hb hr (fun t ht hW => ⟨⟨(-1 : Int32), (), rfl, h, x_end (w1 := [(a_t, .inr (6, [.ref a_t_now, .ref a_t_images, .ref a_t_past, .int t_acts, .ref a_t_core, .ref a_t_supposed, .ref a_t_trial, .ref a_t_reader, .ref a_t_front, .ref a_t_frontSpare, .int t_frontState])), (a_t_now, .inr (5, [.ref a_t_now_load, .ref a_t_now_text, .int t_now_length, .int t_now_fault, .int t_now_faultPlace, .ref a_t_now_shelfWeights, .ref a_t_now_shelfProfits])), (a_t_now_load, .inr (1, [.ref a_t_now_load_weights, .ref a_t_now_load_profits, .int t_now_load_items, .int t_now_load_room, .int t_now_load_most, .int t_now_load_steps])), (a_t_core, .inr (0, [.ref a_t_core_ranked, .ref a_t_core_sets, .ref a_t_core_spare, .int t_core_most, .int t_core_from, .int t_core_to, .int t_core_steps, .int t_core_bestWeight, .int t_core_bestProfit, .long t_core_bestBits])), (a_t_core_ranked, .inr (2, [.ref a_t_core_ranked_itemAt, .ref a_t_core_ranked_placeOf, .ref a_t_core_ranked_weights, .ref a_t_core_ranked_profits, .int t_core_ranked_items, .int t_core_ranked_room, .int t_core_ranked_breakPlace, .int t_core_ranked_breakWeight, .int t_core_ranked_breakProfit])), (a_t_core_ranked_weights, .inl (cy 0, 60, .inl t_core_ranked_weights)), (a_t_core_ranked_profits, .inl (cy 0, 60, .inl t_core_ranked_profits)), (a_t_core_ranked_itemAt, .inl (cy 0, 60, .inl t_core_ranked_itemAt))]) hP hD hK [0, 1, 2, 3, 4, 5, 6, 7] rfl (by decide) rfl ht hW⟩, hS.F ht⟩) hS.2.2 dX6_swap_10
  · replace h := h.2 c_7
    refine lv_iload_n hx hb dX6_swap_4 rfl (lv_at hl 1 rfl) ?_
    refine lv_iconst (v := 2) hx hb dX6_swap_5 (by decide) ?_
    refine lv_icmp_le (tgt := 11) hx hb dX6_swap_6 (by decide) (fun c_8 => ?_) (fun c_8 => ?_)
    · replace h := h.1 c_8
      refine lv_iconst (v := 0) hx hb dX6_swap_11 (by decide) ?_
      refine lv_istore_n (lv' := [(2, .int (0 : Int32)), (0, .ref a_t), (1, .int v1)]) hx hb dX6_swap_12 rfl hl (by decide) rfl (fun ls hl => ?_)
      refine lv_iconst (v := -1) hx hb dX6_swap_13 (by decide) ?_
      refine lv_istore_n (lv' := [(3, .int (-1 : Int32)), (2, .int (0 : Int32)), (0, .ref a_t), (1, .int v1)]) hx hb dX6_swap_14 rfl hl (by decide) rfl (fun ls hl => ?_)
      refine lv_iconst (v := -1) hx hb dX6_swap_15 (by decide) ?_
      refine lv_istore (lv' := [(4, .int (-1 : Int32)), (3, .int (-1 : Int32)), (2, .int (0 : Int32)), (0, .ref a_t), (1, .int v1)]) hx hb dX6_swap_16 hl (by decide) rfl (fun ls hl => ?_)
      refine lv_iconst (v := 0) hx hb dX6_swap_18 (by decide) ?_
      refine lv_istore (lv' := [(5, .int (0 : Int32)), (4, .int (-1 : Int32)), (3, .int (-1 : Int32)), (2, .int (0 : Int32)), (0, .ref a_t), (1, .int v1)]) hx hb dX6_swap_19 hl (by decide) rfl (fun ls hl => ?_)
      obtain ⟨n9, h⟩ := h
      exact L21 n9 v1 (0 : Int32) (-1 : Int32) (-1 : Int32) (0 : Int32) h _ _ _ (x_sub hP [0, 1, 2, 3, 4, 5, 6, 7] rfl) (hD.sub [0, 1, 2, 3, 4, 5, 6, 7] (by decide) rfl) hS (lv_sub hl [4, 5, 3, 2, 1, 0] rfl)
    · replace h := h.2 c_8
      refine lv_iconst (v := -1) hx hb dX6_swap_9 (by decide) ?_
      rw [← hQ]
      exact W.iret (v := (-1 : Int32)) hx hb hr (fun t ht hW => ⟨⟨(-1 : Int32), (), rfl, h, x_end (w1 := [(a_t, .inr (6, [.ref a_t_now, .ref a_t_images, .ref a_t_past, .int t_acts, .ref a_t_core, .ref a_t_supposed, .ref a_t_trial, .ref a_t_reader, .ref a_t_front, .ref a_t_frontSpare, .int t_frontState])), (a_t_now, .inr (5, [.ref a_t_now_load, .ref a_t_now_text, .int t_now_length, .int t_now_fault, .int t_now_faultPlace, .ref a_t_now_shelfWeights, .ref a_t_now_shelfProfits])), (a_t_now_load, .inr (1, [.ref a_t_now_load_weights, .ref a_t_now_load_profits, .int t_now_load_items, .int t_now_load_room, .int t_now_load_most, .int t_now_load_steps])), (a_t_core, .inr (0, [.ref a_t_core_ranked, .ref a_t_core_sets, .ref a_t_core_spare, .int t_core_most, .int t_core_from, .int t_core_to, .int t_core_steps, .int t_core_bestWeight, .int t_core_bestProfit, .long t_core_bestBits])), (a_t_core_ranked, .inr (2, [.ref a_t_core_ranked_itemAt, .ref a_t_core_ranked_placeOf, .ref a_t_core_ranked_weights, .ref a_t_core_ranked_profits, .int t_core_ranked_items, .int t_core_ranked_room, .int t_core_ranked_breakPlace, .int t_core_ranked_breakWeight, .int t_core_ranked_breakProfit])), (a_t_core_ranked_weights, .inl (cy 0, 60, .inl t_core_ranked_weights)), (a_t_core_ranked_profits, .inl (cy 0, 60, .inl t_core_ranked_profits)), (a_t_core_ranked_itemAt, .inl (cy 0, 60, .inl t_core_ranked_itemAt))]) hP hD hK [0, 1, 2, 3, 4, 5, 6, 7] rfl (by decide) rfl ht hW⟩, hS.F ht⟩) hS.2.2 dX6_swap_10

theorem qX6_byteAt : yX6_byteAt.cls = RX6 ∧ yX6_byteAt.cls ≠ "java/lang/invoke/MethodHandle" ∧ yX6_byteAt.cls ≠ "java/lang/invoke/VarHandle" ∧ (parseMethodDescriptor yX6_byteAt.desc).map (fun d => d.parameters.length) = some 2 := by decide +kernel
def wX6_type_71 (K42 : Int32 → (Nat → Int32) → Int64 → Int32 → Int32 → Prop) (post : Int32 → Int32 → (Nat → Int32) → Prop) (t_now_length : Int32) (t_now_text : Nat → Int32) (v1 : Int64) (v3 v4 k1 k2 : Int32) : Prop :=
  vp_in k1 600 ∧ K42 t_now_length (upd t_now_text (k1).toNatClampNeg (vp_nar .byte k2)) v1 v3 (v4 + (1 : Int32))
def wX6_type_42_b (post : Int32 → Int32 → (Nat → Int32) → Prop) (K42 : Int32 → (Nat → Int32) → Int64 → Int32 → Int32 → Prop) (t_now_length : Int32) (t_now_text : Nat → Int32) (v1 : Int64) (v3 v4 : Int32) : Prop :=
  (v3 ≤ v4 → post (t_now_length + v3) (t_now_length + v3) t_now_text) ∧ (¬ v3 ≤ v4 → wX6_byteAt (fun r68 => wX6_type_71 K42 post t_now_length t_now_text v1 v3 v4 (t_now_length + v4) r68) v1 v4)
def wX6_type_42 (post : Int32 → Int32 → (Nat → Int32) → Prop) : Nat → Int32 → (Nat → Int32) → Int64 → Int32 → Int32 → Prop
  | 0 => fun _ _ _ _ _ => False
  | n + 1 => wX6_type_42_b post (wX6_type_42 post n)
def wX6_type_22 (post : Int32 → Int32 → (Nat → Int32) → Prop) (t_now_length : Int32) (t_now_text : Nat → Int32) (v1 : Int64) (v3 : Int32) : Prop :=
  ((t_now_length + v3) ≤ (600 : Int32) → ∃ n : Nat, wX6_type_42 post n t_now_length t_now_text v1 v3 (0 : Int32)) ∧ (¬ (t_now_length + v3) ≤ (600 : Int32) → post (-1 : Int32) t_now_length t_now_text)
def wX6_type_13 (K2 : Int32 → (Nat → Int32) → Int64 → Int32 → Prop) (post : Int32 → Int32 → (Nat → Int32) → Prop) (t_now_length : Int32) (t_now_text : Nat → Int32) (v1 : Int64) (v3 k0 : Int32) : Prop :=
  (k0 = (0 : Int32) → wX6_type_22 post t_now_length t_now_text v1 v3) ∧ (¬ k0 = (0 : Int32) → K2 t_now_length t_now_text v1 (v3 + (1 : Int32)))
def wX6_type_2_b (post : Int32 → Int32 → (Nat → Int32) → Prop) (K2 : Int32 → (Nat → Int32) → Int64 → Int32 → Prop) (t_now_length : Int32) (t_now_text : Nat → Int32) (v1 : Int64) (v3 : Int32) : Prop :=
  ((8 : Int32) ≤ v3 → wX6_type_22 post t_now_length t_now_text v1 v3) ∧ (¬ (8 : Int32) ≤ v3 → wX6_byteAt (fun r10 => wX6_type_13 K2 post t_now_length t_now_text v1 v3 r10) v1 v3)
def wX6_type_2 (post : Int32 → Int32 → (Nat → Int32) → Prop) : Nat → Int32 → (Nat → Int32) → Int64 → Int32 → Prop
  | 0 => fun _ _ _ _ => False
  | n + 1 => wX6_type_2_b post (wX6_type_2 post n)
/-- KnapsackCore.type(J)I -/
def wX6_type (post : Int32 → Int32 → (Nat → Int32) → Prop) (t_now_length : Int32) (t_now_text : Nat → Int32) (v1 : Int64) : Prop :=
  ∃ n : Nat, wX6_type_2 post n t_now_length t_now_text v1 (0 : Int32)
theorem kX6_type_0 : Cond.fieldLink RX6 10 "KnapsackCore" "now" "LKnapsackCore$State;" ∈ wsX6_type := (List.mem_cons_of_mem _ (List.mem_append_left _ (List.mem_append_left _ (List.mem_of_getElem? (i := 0) rfl))))
theorem kX6_type_1 : Cond.fieldLink RX6 65 "KnapsackCore$State" "length" "I" ∈ wsX6_type := (List.mem_cons_of_mem _ (List.mem_append_left _ (List.mem_append_left _ (List.mem_of_getElem? (i := 1) rfl))))
theorem kX6_type_2 : Cond.fieldLink RX6 69 "KnapsackCore$State" "text" "[B" ∈ wsX6_type := (List.mem_cons_of_mem _ (List.mem_append_left _ (List.mem_append_left _ (List.mem_of_getElem? (i := 2) rfl))))
theorem iX6_type_X6 : ∀ w ∈ u_ws RX6 TX6 11, w ∈ wsX6_type := fun w h => (List.mem_cons_of_mem _ (List.mem_append_left _ (List.mem_append_right _ h)))
theorem iX6_type_X5 : ∀ w ∈ u_ws RX5 TX5 7, w ∈ wsX6_type := fun w h => (List.mem_cons_of_mem _ (List.mem_append_right _ h))
set_option maxHeartbeats 4000000 in
set_option maxRecDepth 100000 in
theorem mtX6_type (l : Launch) (ad : (Nat → Nat) × (Nat → Nat)) (dC : Nat → ClassId) (dI : Nat → Nat → Nat) (cy : Nat → ClassId) (a_t a_t_now a_t_images a_t_past a_t_core a_t_supposed a_t_trial a_t_reader a_t_front a_t_frontSpare a_t_now_load a_t_now_text a_t_now_shelfWeights a_t_now_shelfProfits : Nat) (sz : Nat) (t_acts t_frontState t_now_length t_now_fault t_now_faultPlace : Int32) (t_now_text : Nat → Int32) (v1 : Int64) {post : Int32 → Int32 → (Nat → Int32) → Prop} (h : wX6_type post t_now_length t_now_text v1) : xMi l yX6_type wsX6_type ({ frames := 1, cells := 0, slots := 0, locals := 22 } : Room) ad (dC, dI) vwCl (xT cy) [.ref a_t, .long v1] [(a_t, .inr (6, [.ref a_t_now, .ref a_t_images, .ref a_t_past, .int t_acts, .ref a_t_core, .ref a_t_supposed, .ref a_t_trial, .ref a_t_reader, .ref a_t_front, .ref a_t_frontSpare, .int t_frontState])), (a_t_now, .inr (5, [.ref a_t_now_load, .ref a_t_now_text, .int t_now_length, .int t_now_fault, .int t_now_faultPlace, .ref a_t_now_shelfWeights, .ref a_t_now_shelfProfits])), (a_t_now_text, .inl (cy 2, 600, .inl t_now_text))] sz (fun (r : Int32) (u : Int32 × (Nat → Int32)) => post r u.1 u.2) (fun (u : Int32 × (Nat → Int32)) w => w = [(a_t, .inr (6, [.ref a_t_now, .ref a_t_images, .ref a_t_past, .int t_acts, .ref a_t_core, .ref a_t_supposed, .ref a_t_trial, .ref a_t_reader, .ref a_t_front, .ref a_t_frontSpare, .int t_frontState])), (a_t_now, .inr (5, [.ref a_t_now_load, .ref a_t_now_text, .int u.1, .int t_now_fault, .int t_now_faultPlace, .ref a_t_now_shelfWeights, .ref a_t_now_shelfProfits])), (a_t_now_text, .inl (cy 2, 600, .inl u.2))]) 0 0 := by
  unfold xMi
  refine Met.ofW (cc := cX6_type) (maxL := 5) (ret := (some .int)) (by decide +kernel) rfl ?_
  intro p e s m args below meth c s₁ B hml hv
  obtain ⟨rfl, hsz, hP, hK, hD0, hE⟩ := hv
  have hx := B.exec
  have hb := B.bytes
  have hr := B.returns
  have hts := atoms_spec (ws := wsX6_type) B.pre
  have hown : s.vm.findClass RX6 = some m.cls := findClass_of_methodNamed B.named
  have hlocks := B.notSynchronized
  subst hsz
  have hD := hD0.self (sz := s.heap.size)
  generalize hAe : va_A [(a_t, .inr (6, [.ref a_t_now, .ref a_t_images, .ref a_t_past, .int t_acts, .ref a_t_core, .ref a_t_supposed, .ref a_t_trial, .ref a_t_reader, .ref a_t_front, .ref a_t_frontSpare, .int t_frontState])), (a_t_now, .inr (5, [.ref a_t_now_load, .ref a_t_now_text, .int t_now_length, .int t_now_fault, .int t_now_faultPlace, .ref a_t_now_shelfWeights, .ref a_t_now_shelfProfits])), (a_t_now_text, .inl (cy 2, 600, .inl t_now_text))] s.heap.size = A at hD hE ⊢
  have hA : ∀ q : Nat, s.heap.size ≤ q → A q := fun q h => by rw [← hAe]; exact Or.inr h
  have hS : va_S A s.heap s.heap [] := va_S.rf
  have hl := lv_entry ([.ref a_t, .long v1]) (n := 5) (Nat.le_of_ble_eq_true rfl)
  rw [lg_entry_eq]
  generalize (lg_sl ([.ref a_t, .long v1]) ++ List.replicate (5 - (lg_sl ([.ref a_t, .long v1])).length) Slot.unset).toArray = ls at hl ⊢
  have hl : lv_has ls 5 [(0, .ref a_t), (1, .long v1)] := hl
  generalize hQ : MQ below _ _ s _ _ _ = Q
  generalize ([.ref a_t, .long v1] : List Value).toArray = args at hts hQ ⊢
  clear B hD0 hAe
  have L42 : ∀ n : Nat, ∀ (t_now_length : Int32) (t_now_text : Nat → Int32) (v1 : Int64) (v3 v4 : Int32), wX6_type_42 post n t_now_length t_now_text v1 v3 v4 → ∀ (H : Heap) (locs : List Loc) (ls : Array Slot), va_P (dC, dI) vwCl [(a_t, .inr (6, [.ref a_t_now, .ref a_t_images, .ref a_t_past, .int t_acts, .ref a_t_core, .ref a_t_supposed, .ref a_t_trial, .ref a_t_reader, .ref a_t_front, .ref a_t_frontSpare, .int t_frontState])), (a_t_now, .inr (5, [.ref a_t_now_load, .ref a_t_now_text, .int t_now_length, .int t_now_fault, .int t_now_faultPlace, .ref a_t_now_shelfWeights, .ref a_t_now_shelfProfits])), (a_t_now_text, .inl (cy 2, 600, .inl t_now_text))] H → va_D A [(a_t, .inr (6, [.ref a_t_now, .ref a_t_images, .ref a_t_past, .int t_acts, .ref a_t_core, .ref a_t_supposed, .ref a_t_trial, .ref a_t_reader, .ref a_t_front, .ref a_t_frontSpare, .int t_frontState])), (a_t_now, .inr (5, [.ref a_t_now_load, .ref a_t_now_text, .int t_now_length, .int t_now_fault, .int t_now_faultPlace, .ref a_t_now_shelfWeights, .ref a_t_now_shelfProfits])), (a_t_now_text, .inl (cy 2, 600, .inl t_now_text))] → va_S A s.heap H locs → lv_has ls 5 [(0, .ref a_t), (1, .long v1), (3, .int v3), (4, .int v4)] → W p l e (headSpec wsX6_type ({ frames := 1, cells := 0, slots := 0, locals := 22 } : Room)).room s m args below meth c H locs 0 0 Q (F0 m 42 ls []) := by
    intro n
    induction n with
    | zero => intro t_now_length t_now_text v1 v3 v4 h; exact False.elim h
    | succ n42 ih42 =>
      intro t_now_length t_now_text v1 v3 v4 h H locs ls hP hD hS hl
      replace h : wX6_type_42_b post (wX6_type_42 post n42) t_now_length t_now_text v1 v3 v4 := h
      refine lv_iload hx hb dX6_type_42 (lv_at hl 3 rfl) ?_
      refine lv_iload_n hx hb dX6_type_44 rfl (lv_at hl 2 rfl) ?_
      refine lv_icmp_ge (tgt := 78) hx hb dX6_type_45 (by decide) (fun c_1 => ?_) (fun c_1 => ?_)
      · replace h := h.1 c_1
        refine lv_aload_n hx hb dX6_type_78 rfl (lv_at hl 0 rfl) ?_
        refine va_get (D := (dC, dI)) (ci := 6) (v := .ref a_t_now) (C := RX6) (T := TX6) (N := 11) hx hb hts iX6_type_X6 hown hK hP 0 rfl rfl 0 (Nat.le_of_ble_eq_true rfl) (hts _ kX6_type_0) (fun _ h9 => h9) rfl dX6_type_79 ?_
        refine lv_dup hx hb dX6_type_82 rfl ?_
        refine va_get (D := (dC, dI)) (ci := 5) (v := .int t_now_length) (C := RX5) (T := TX5) (N := 7) hx hb hts iX6_type_X5 hown hK hP 1 rfl rfl 2 (Nat.le_of_ble_eq_true rfl) (hts _ kX6_type_1) (fun _ h9 => h9) rfl dX6_type_83 ?_
        refine lv_iload_n hx hb dX6_type_86 rfl (lv_at hl 2 rfl) ?_
        refine lv_iadd hx hb dX6_type_87 ?_
        refine va_put (D := (dC, dI)) (ci := 5) (v := .int (t_now_length + v3)) (C := RX5) (T := TX5) (N := 7) hx hb hts iX6_type_X5 tyX5 tyX5_ok nmX5 hown hK hP hD hS 1 rfl rfl 2 (Nat.le_of_ble_eq_true rfl) (hts _ kX6_type_1) (fun _ h9 => h9) rfl (tyX5_ok 2 (Nat.le_of_ble_eq_true rfl)) rfl rfl (Nat.le_of_ble_eq_true rfl) dX6_type_88 (fun H locs hP hD hS => ?_)
        have hP : va_P (dC, dI) vwCl [(a_t, .inr (6, [.ref a_t_now, .ref a_t_images, .ref a_t_past, .int t_acts, .ref a_t_core, .ref a_t_supposed, .ref a_t_trial, .ref a_t_reader, .ref a_t_front, .ref a_t_frontSpare, .int t_frontState])), (a_t_now, .inr (5, [.ref a_t_now_load, .ref a_t_now_text, .int (t_now_length + v3), .int t_now_fault, .int t_now_faultPlace, .ref a_t_now_shelfWeights, .ref a_t_now_shelfProfits])), (a_t_now_text, .inl (cy 2, 600, .inl t_now_text))] H := hP
        have hD : va_D A [(a_t, .inr (6, [.ref a_t_now, .ref a_t_images, .ref a_t_past, .int t_acts, .ref a_t_core, .ref a_t_supposed, .ref a_t_trial, .ref a_t_reader, .ref a_t_front, .ref a_t_frontSpare, .int t_frontState])), (a_t_now, .inr (5, [.ref a_t_now_load, .ref a_t_now_text, .int (t_now_length + v3), .int t_now_fault, .int t_now_faultPlace, .ref a_t_now_shelfWeights, .ref a_t_now_shelfProfits])), (a_t_now_text, .inl (cy 2, 600, .inl t_now_text))] := hD
        refine lv_aload_n hx hb dX6_type_91 rfl (lv_at hl 0 rfl) ?_
        refine va_get (D := (dC, dI)) (ci := 6) (v := .ref a_t_now) (C := RX6) (T := TX6) (N := 11) hx hb hts iX6_type_X6 hown hK hP 0 rfl rfl 0 (Nat.le_of_ble_eq_true rfl) (hts _ kX6_type_0) (fun _ h9 => h9) rfl dX6_type_92 ?_
        refine va_get (D := (dC, dI)) (ci := 5) (v := .int (t_now_length + v3)) (C := RX5) (T := TX5) (N := 7) hx hb hts iX6_type_X5 hown hK hP 1 rfl rfl 2 (Nat.le_of_ble_eq_true rfl) (hts _ kX6_type_1) (fun _ h9 => h9) rfl dX6_type_95 ?_
        rw [← hQ]
        exact W.iret (v := (t_now_length + v3)) hx hb hr (fun t ht hW => ⟨⟨(t_now_length + v3), ((t_now_length + v3), t_now_text), rfl, (by dsimp only; exact h), x_end (w1 := [(a_t, .inr (6, [.ref a_t_now, .ref a_t_images, .ref a_t_past, .int t_acts, .ref a_t_core, .ref a_t_supposed, .ref a_t_trial, .ref a_t_reader, .ref a_t_front, .ref a_t_frontSpare, .int t_frontState])), (a_t_now, .inr (5, [.ref a_t_now_load, .ref a_t_now_text, .int (t_now_length + v3), .int t_now_fault, .int t_now_faultPlace, .ref a_t_now_shelfWeights, .ref a_t_now_shelfProfits])), (a_t_now_text, .inl (cy 2, 600, .inl t_now_text))]) hP hD hK [0, 1, 2] rfl (by decide) (by first | exact rfl | (dsimp only; exact rfl)) ht hW⟩, hS.F ht⟩) hS.2.2 dX6_type_98
      · replace h := h.2 c_1
        refine lv_aload_n hx hb dX6_type_48 rfl (lv_at hl 0 rfl) ?_
        refine va_get (D := (dC, dI)) (ci := 6) (v := .ref a_t_now) (C := RX6) (T := TX6) (N := 11) hx hb hts iX6_type_X6 hown hK hP 0 rfl rfl 0 (Nat.le_of_ble_eq_true rfl) (hts _ kX6_type_0) (fun _ h9 => h9) rfl dX6_type_49 ?_
        refine va_get (D := (dC, dI)) (ci := 5) (v := .ref a_t_now_text) (C := RX5) (T := TX5) (N := 7) hx hb hts iX6_type_X5 hown hK hP 1 rfl rfl 1 (Nat.le_of_ble_eq_true rfl) (hts _ kX6_type_2) (fun _ h9 => h9) rfl dX6_type_52 ?_
        refine lv_aload_n hx hb dX6_type_55 rfl (lv_at hl 0 rfl) ?_
        refine va_get (D := (dC, dI)) (ci := 6) (v := .ref a_t_now) (C := RX6) (T := TX6) (N := 11) hx hb hts iX6_type_X6 hown hK hP 0 rfl rfl 0 (Nat.le_of_ble_eq_true rfl) (hts _ kX6_type_0) (fun _ h9 => h9) rfl dX6_type_56 ?_
        refine va_get (D := (dC, dI)) (ci := 5) (v := .int t_now_length) (C := RX5) (T := TX5) (N := 7) hx hb hts iX6_type_X5 hown hK hP 1 rfl rfl 2 (Nat.le_of_ble_eq_true rfl) (hts _ kX6_type_1) (fun _ h9 => h9) rfl dX6_type_59 ?_
        refine lv_iload hx hb dX6_type_62 (lv_at hl 3 rfl) ?_
        refine lv_iadd hx hb dX6_type_64 ?_
        refine lv_lload_n hx hb dX6_type_65 rfl (lv_at hl 1 rfl) ?_
        refine lv_iload hx hb dX6_type_66 (lv_at hl 3 rfl) ?_
        refine xSi0 (As := [.long v1, .int v4]) (rest := [.int (t_now_length + v4), .ref a_t_now_text]) ⟨hx, hb, hml, hown, hts⟩ (mtX6_byteAt l ad dC dI cy  _  v1 v4 h) (va_cwS 2 hts gX6_type_X6_byteAt rfl rfl rfl qX6_byteAt.2 ⟨Nat.le_of_ble_eq_true rfl, Nat.le_of_ble_eq_true rfl⟩) hE hK hP hD hS hA [] rfl (by decide) rfl hl.1 rfl (Nat.le_of_ble_eq_true rfl) dX6_type_68 ⟨Nat.le_refl _, Nat.le_refl _⟩ (fun r68 H locs h hP hS => ?_)
        try dsimp only at h
        refine va_bast (D := (dC, dI)) hx hb hK hP hD hS 2 2 rfl rfl h.1 dX6_type_71 (fun H locs hP hD hS => ?_)
        replace h := h.2
        have hP : va_P (dC, dI) vwCl [(a_t, .inr (6, [.ref a_t_now, .ref a_t_images, .ref a_t_past, .int t_acts, .ref a_t_core, .ref a_t_supposed, .ref a_t_trial, .ref a_t_reader, .ref a_t_front, .ref a_t_frontSpare, .int t_frontState])), (a_t_now, .inr (5, [.ref a_t_now_load, .ref a_t_now_text, .int t_now_length, .int t_now_fault, .int t_now_faultPlace, .ref a_t_now_shelfWeights, .ref a_t_now_shelfProfits])), (a_t_now_text, .inl (cy 2, 600, .inl (upd t_now_text ((t_now_length + v4)).toNatClampNeg (vp_nar .byte r68))))] H := hP
        have hD : va_D A [(a_t, .inr (6, [.ref a_t_now, .ref a_t_images, .ref a_t_past, .int t_acts, .ref a_t_core, .ref a_t_supposed, .ref a_t_trial, .ref a_t_reader, .ref a_t_front, .ref a_t_frontSpare, .int t_frontState])), (a_t_now, .inr (5, [.ref a_t_now_load, .ref a_t_now_text, .int t_now_length, .int t_now_fault, .int t_now_faultPlace, .ref a_t_now_shelfWeights, .ref a_t_now_shelfProfits])), (a_t_now_text, .inl (cy 2, 600, .inl (upd t_now_text ((t_now_length + v4)).toNatClampNeg (vp_nar .byte r68))))] := hD
        refine lv_iinc (v := (v4 + (1 : Int32))) (lv' := [(4, .int (v4 + (1 : Int32))), (0, .ref a_t), (1, .long v1), (3, .int v3)]) hx hb dX6_type_72 hl (k := 3) rfl rfl (by decide) rfl (fun ls hl => ?_)
        refine lv_goto (tgt := 42) hx hb dX6_type_75 (by decide) ?_
        exact ih42 t_now_length (upd t_now_text ((t_now_length + v4)).toNatClampNeg (vp_nar .byte r68)) v1 v3 (v4 + (1 : Int32)) h _ _ _ (x_sub hP [0, 1, 2] rfl) (hD.sub [0, 1, 2] (by decide) rfl) hS (lv_sub hl [1, 2, 3, 0] rfl)
  have C22 : ∀ (t_now_length : Int32) (t_now_text : Nat → Int32) (v1 : Int64) (v3 : Int32), wX6_type_22 post t_now_length t_now_text v1 v3 → ∀ (H : Heap) (locs : List Loc) (ls : Array Slot), va_P (dC, dI) vwCl [(a_t, .inr (6, [.ref a_t_now, .ref a_t_images, .ref a_t_past, .int t_acts, .ref a_t_core, .ref a_t_supposed, .ref a_t_trial, .ref a_t_reader, .ref a_t_front, .ref a_t_frontSpare, .int t_frontState])), (a_t_now, .inr (5, [.ref a_t_now_load, .ref a_t_now_text, .int t_now_length, .int t_now_fault, .int t_now_faultPlace, .ref a_t_now_shelfWeights, .ref a_t_now_shelfProfits])), (a_t_now_text, .inl (cy 2, 600, .inl t_now_text))] H → va_D A [(a_t, .inr (6, [.ref a_t_now, .ref a_t_images, .ref a_t_past, .int t_acts, .ref a_t_core, .ref a_t_supposed, .ref a_t_trial, .ref a_t_reader, .ref a_t_front, .ref a_t_frontSpare, .int t_frontState])), (a_t_now, .inr (5, [.ref a_t_now_load, .ref a_t_now_text, .int t_now_length, .int t_now_fault, .int t_now_faultPlace, .ref a_t_now_shelfWeights, .ref a_t_now_shelfProfits])), (a_t_now_text, .inl (cy 2, 600, .inl t_now_text))] → va_S A s.heap H locs → lv_has ls 5 [(0, .ref a_t), (1, .long v1), (3, .int v3)] → W p l e (headSpec wsX6_type ({ frames := 1, cells := 0, slots := 0, locals := 22 } : Room)).room s m args below meth c H locs 0 0 Q (F0 m 22 ls []) := by
    intro t_now_length t_now_text v1 v3 h H locs ls hP hD hS hl
    refine lv_aload_n hx hb dX6_type_22 rfl (lv_at hl 0 rfl) ?_
    refine va_get (D := (dC, dI)) (ci := 6) (v := .ref a_t_now) (C := RX6) (T := TX6) (N := 11) hx hb hts iX6_type_X6 hown hK hP 0 rfl rfl 0 (Nat.le_of_ble_eq_true rfl) (hts _ kX6_type_0) (fun _ h9 => h9) rfl dX6_type_23 ?_
    refine va_get (D := (dC, dI)) (ci := 5) (v := .int t_now_length) (C := RX5) (T := TX5) (N := 7) hx hb hts iX6_type_X5 hown hK hP 1 rfl rfl 2 (Nat.le_of_ble_eq_true rfl) (hts _ kX6_type_1) (fun _ h9 => h9) rfl dX6_type_26 ?_
    refine lv_iload_n hx hb dX6_type_29 rfl (lv_at hl 2 rfl) ?_
    refine lv_iadd hx hb dX6_type_30 ?_
    refine lv_sipush (v := 600) hx hb dX6_type_31 (by decide) ?_
    refine lv_icmp_le (tgt := 39) hx hb dX6_type_34 (by decide) (fun c_2 => ?_) (fun c_2 => ?_)
    · replace h := h.1 c_2
      refine lv_iconst (v := 0) hx hb dX6_type_39 (by decide) ?_
      refine lv_istore (lv' := [(4, .int (0 : Int32)), (0, .ref a_t), (1, .long v1), (3, .int v3)]) hx hb dX6_type_40 hl (by decide) rfl (fun ls hl => ?_)
      obtain ⟨n9, h⟩ := h
      exact L42 n9 t_now_length t_now_text v1 v3 (0 : Int32) h _ _ _ (x_sub hP [0, 1, 2] rfl) (hD.sub [0, 1, 2] (by decide) rfl) hS (lv_sub hl [1, 2, 3, 0] rfl)
    · replace h := h.2 c_2
      refine lv_iconst (v := -1) hx hb dX6_type_37 (by decide) ?_
      rw [← hQ]
      exact W.iret (v := (-1 : Int32)) hx hb hr (fun t ht hW => ⟨⟨(-1 : Int32), (t_now_length, t_now_text), rfl, (by dsimp only; exact h), x_end (w1 := [(a_t, .inr (6, [.ref a_t_now, .ref a_t_images, .ref a_t_past, .int t_acts, .ref a_t_core, .ref a_t_supposed, .ref a_t_trial, .ref a_t_reader, .ref a_t_front, .ref a_t_frontSpare, .int t_frontState])), (a_t_now, .inr (5, [.ref a_t_now_load, .ref a_t_now_text, .int t_now_length, .int t_now_fault, .int t_now_faultPlace, .ref a_t_now_shelfWeights, .ref a_t_now_shelfProfits])), (a_t_now_text, .inl (cy 2, 600, .inl t_now_text))]) hP hD hK [0, 1, 2] rfl (by decide) (by first | exact rfl | (dsimp only; exact rfl)) ht hW⟩, hS.F ht⟩) hS.2.2 dX6_type_38
  have L2 : ∀ n : Nat, ∀ (t_now_length : Int32) (t_now_text : Nat → Int32) (v1 : Int64) (v3 : Int32), wX6_type_2 post n t_now_length t_now_text v1 v3 → ∀ (H : Heap) (locs : List Loc) (ls : Array Slot), va_P (dC, dI) vwCl [(a_t, .inr (6, [.ref a_t_now, .ref a_t_images, .ref a_t_past, .int t_acts, .ref a_t_core, .ref a_t_supposed, .ref a_t_trial, .ref a_t_reader, .ref a_t_front, .ref a_t_frontSpare, .int t_frontState])), (a_t_now, .inr (5, [.ref a_t_now_load, .ref a_t_now_text, .int t_now_length, .int t_now_fault, .int t_now_faultPlace, .ref a_t_now_shelfWeights, .ref a_t_now_shelfProfits])), (a_t_now_text, .inl (cy 2, 600, .inl t_now_text))] H → va_D A [(a_t, .inr (6, [.ref a_t_now, .ref a_t_images, .ref a_t_past, .int t_acts, .ref a_t_core, .ref a_t_supposed, .ref a_t_trial, .ref a_t_reader, .ref a_t_front, .ref a_t_frontSpare, .int t_frontState])), (a_t_now, .inr (5, [.ref a_t_now_load, .ref a_t_now_text, .int t_now_length, .int t_now_fault, .int t_now_faultPlace, .ref a_t_now_shelfWeights, .ref a_t_now_shelfProfits])), (a_t_now_text, .inl (cy 2, 600, .inl t_now_text))] → va_S A s.heap H locs → lv_has ls 5 [(0, .ref a_t), (1, .long v1), (3, .int v3)] → W p l e (headSpec wsX6_type ({ frames := 1, cells := 0, slots := 0, locals := 22 } : Room)).room s m args below meth c H locs 0 0 Q (F0 m 2 ls []) := by
    intro n
    induction n with
    | zero => intro t_now_length t_now_text v1 v3 h; exact False.elim h
    | succ n2 ih2 =>
      intro t_now_length t_now_text v1 v3 h H locs ls hP hD hS hl
      replace h : wX6_type_2_b post (wX6_type_2 post n2) t_now_length t_now_text v1 v3 := h
      refine lv_iload_n hx hb dX6_type_2 rfl (lv_at hl 2 rfl) ?_
      refine lv_bipush (v := 8) hx hb dX6_type_3 (by decide) ?_
      refine lv_icmp_ge (tgt := 22) hx hb dX6_type_5 (by decide) (fun c_3 => ?_) (fun c_3 => ?_)
      · replace h := h.1 c_3
        exact C22 t_now_length t_now_text v1 v3 h _ _ _ (x_sub hP [0, 1, 2] rfl) (hD.sub [0, 1, 2] (by decide) rfl) hS (lv_sub hl [0, 1, 2] rfl)
      · replace h := h.2 c_3
        refine lv_lload_n hx hb dX6_type_8 rfl (lv_at hl 1 rfl) ?_
        refine lv_iload_n hx hb dX6_type_9 rfl (lv_at hl 2 rfl) ?_
        refine xSi0 (As := [.long v1, .int v3]) (rest := []) ⟨hx, hb, hml, hown, hts⟩ (mtX6_byteAt l ad dC dI cy  _  v1 v3 h) (va_cwS 2 hts gX6_type_X6_byteAt rfl rfl rfl qX6_byteAt.2 ⟨Nat.le_of_ble_eq_true rfl, Nat.le_of_ble_eq_true rfl⟩) hE hK hP hD hS hA [] rfl (by decide) rfl hl.1 rfl (Nat.le_of_ble_eq_true rfl) dX6_type_10 ⟨Nat.le_refl _, Nat.le_refl _⟩ (fun r10 H locs h hP hS => ?_)
        try dsimp only at h
        refine lv_if_eq (tgt := 22) hx hb dX6_type_13 (by decide) (fun c_4 => ?_) (fun c_4 => ?_)
        · replace h := h.1 c_4
          exact C22 t_now_length t_now_text v1 v3 h _ _ _ (x_sub hP [0, 1, 2] rfl) (hD.sub [0, 1, 2] (by decide) rfl) hS (lv_sub hl [0, 1, 2] rfl)
        · replace h := h.2 c_4
          refine lv_iinc (v := (v3 + (1 : Int32))) (lv' := [(3, .int (v3 + (1 : Int32))), (0, .ref a_t), (1, .long v1)]) hx hb dX6_type_16 hl (k := 2) rfl rfl (by decide) rfl (fun ls hl => ?_)
          refine lv_goto (tgt := 2) hx hb dX6_type_19 (by decide) ?_
          exact ih2 t_now_length t_now_text v1 (v3 + (1 : Int32)) h _ _ _ (x_sub hP [0, 1, 2] rfl) (hD.sub [0, 1, 2] (by decide) rfl) hS (lv_sub hl [1, 2, 0] rfl)
  refine lv_iconst (v := 0) hx hb dX6_type_0 (by decide) ?_
  refine lv_istore_n (lv' := [(3, .int (0 : Int32)), (0, .ref a_t), (1, .long v1)]) hx hb dX6_type_1 rfl hl (by decide) rfl (fun ls hl => ?_)
  obtain ⟨n9, h⟩ := h
  exact L2 n9 t_now_length t_now_text v1 (0 : Int32) h _ _ _ (x_sub hP [0, 1, 2] rfl) (hD.sub [0, 1, 2] (by decide) rfl) hS (lv_sub hl [1, 2, 0] rfl)
