theorem qX2_roomLeft : yX2_roomLeft.cls = RX2 ∧ yX2_roomLeft.cls ≠ "java/lang/invoke/MethodHandle" ∧ yX2_roomLeft.cls ≠ "java/lang/invoke/VarHandle" ∧ (parseMethodDescriptor yX2_roomLeft.desc).map (fun d => d.parameters.length) = some 0 := by decide +kernel
def wX2_reducedAt_79 (t_items t_room t_breakPlace t_breakWeight t_breakProfit : Int32) (t_profits t_weights : Nat → Int32) (post : Int64 → Prop) (v1 : Int32) (k0 : Int64) (k2 : Int32) (k3 : Int64) : Prop :=
  vp_in v1 60 ∧ wX2_worthDown t_items t_weights t_profits (fun r87 => post (k0 + r87)) k2 (k3 - ((t_weights (v1).toNatClampNeg)).toInt64)
def wX2_reducedAt_44 (t_items t_room t_breakPlace t_breakWeight t_breakProfit : Int32) (t_profits t_weights : Nat → Int32) (post : Int64 → Prop) (v1 : Int32) (k0 : Int64) (k2 : Int32) (k3 : Int64) : Prop :=
  vp_in v1 60 ∧ wX2_worthDown t_items t_weights t_profits (fun r52 => post (k0 + r52)) k2 (k3 + ((t_weights (v1).toNatClampNeg)).toInt64)
/-- KnapsackCore$Ranked.reducedAt(I)J -/
def wX2_reducedAt (t_items t_room t_breakPlace t_breakWeight t_breakProfit : Int32) (t_profits t_weights : Nat → Int32) (post : Int64 → Prop) (v1 : Int32) : Prop :=
  (v1 < (0 : Int32) → post (0 : Int64)) ∧ (¬ v1 < (0 : Int32) → (v1 < t_items → (t_breakPlace ≤ v1 → vp_in v1 60 ∧ wX2_roomLeft t_room t_breakWeight (fun r76 => wX2_reducedAt_79 t_items t_room t_breakPlace t_breakWeight t_breakProfit t_profits t_weights post v1 ((t_breakProfit).toInt64 + ((t_profits (v1).toNatClampNeg)).toInt64) t_breakPlace r76)) ∧ (¬ t_breakPlace ≤ v1 → vp_in v1 60 ∧ wX2_roomLeft t_room t_breakWeight (fun r41 => wX2_reducedAt_44 t_items t_room t_breakPlace t_breakWeight t_breakProfit t_profits t_weights post v1 ((t_breakProfit).toInt64 - ((t_profits (v1).toNatClampNeg)).toInt64) t_breakPlace r41))) ∧ (¬ v1 < t_items → post (0 : Int64)))
theorem kX2_reducedAt_0 : Cond.fieldLink RX2 18 "KnapsackCore$Ranked" "weights" "[I" ∈ wsX2_reducedAt := (List.mem_cons_of_mem _ (List.mem_append_left _ (List.mem_of_getElem? (i := 4) rfl)))
theorem kX2_reducedAt_1 : Cond.fieldLink RX2 30 "KnapsackCore$Ranked" "items" "I" ∈ wsX2_reducedAt := (List.mem_cons_of_mem _ (List.mem_append_left _ (List.mem_of_getElem? (i := 0) rfl)))
theorem kX2_reducedAt_2 : Cond.fieldLink RX2 44 "KnapsackCore$Ranked" "breakPlace" "I" ∈ wsX2_reducedAt := (List.mem_cons_of_mem _ (List.mem_append_left _ (List.mem_of_getElem? (i := 1) rfl)))
theorem kX2_reducedAt_3 : Cond.fieldLink RX2 50 "KnapsackCore$Ranked" "breakProfit" "I" ∈ wsX2_reducedAt := (List.mem_cons_of_mem _ (List.mem_append_left _ (List.mem_of_getElem? (i := 2) rfl)))
theorem kX2_reducedAt_4 : Cond.fieldLink RX2 21 "KnapsackCore$Ranked" "profits" "[I" ∈ wsX2_reducedAt := (List.mem_cons_of_mem _ (List.mem_append_left _ (List.mem_of_getElem? (i := 3) rfl)))
theorem iX2_reducedAt_X2 : ∀ w ∈ u_ws RX2 TX2 9, w ∈ wsX2_reducedAt := fun w h => (List.mem_cons_of_mem _ (List.mem_append_right _ h))
set_option maxHeartbeats 4000000 in
set_option maxRecDepth 100000 in
theorem mtX2_reducedAt (l : Launch) (ad : (Nat → Nat) × (Nat → Nat)) (dC : Nat → ClassId) (dI : Nat → Nat → Nat) (cy : Nat → ClassId) (a_t a_t_itemAt a_t_placeOf a_t_weights a_t_profits : Nat) (sz : Nat) (t_items t_room t_breakPlace t_breakWeight t_breakProfit : Int32) (t_profits t_weights : Nat → Int32) (v1 : Int32) {post : Int64 → Prop} (h : wX2_reducedAt t_items t_room t_breakPlace t_breakWeight t_breakProfit t_profits t_weights post v1) : xMl l yX2_reducedAt wsX2_reducedAt ({ frames := 2, cells := 0, slots := 0, locals := 48 } : Room) ad (dC, dI) vwCl (xT cy) [.ref a_t, .int v1] [(a_t, .inr (2, [.ref a_t_itemAt, .ref a_t_placeOf, .ref a_t_weights, .ref a_t_profits, .int t_items, .int t_room, .int t_breakPlace, .int t_breakWeight, .int t_breakProfit])), (a_t_profits, .inl (cy 0, 60, .inl t_profits)), (a_t_weights, .inl (cy 0, 60, .inl t_weights))] sz (fun (r : Int64) (_ : Unit) => post r) (fun (_ : Unit) w => w = [(a_t, .inr (2, [.ref a_t_itemAt, .ref a_t_placeOf, .ref a_t_weights, .ref a_t_profits, .int t_items, .int t_room, .int t_breakPlace, .int t_breakWeight, .int t_breakProfit])), (a_t_profits, .inl (cy 0, 60, .inl t_profits)), (a_t_weights, .inl (cy 0, 60, .inl t_weights))]) 0 0 := by
  unfold xMl
  refine Met.ofW (cc := cX2_reducedAt) (maxL := 2) (ret := (some .long)) (by decide +kernel) rfl ?_
  intro p e s m args below meth c s₁ B hml hv
  obtain ⟨rfl, hsz, hP, hK, hD0, hE⟩ := hv
  have hx := B.exec
  have hb := B.bytes
  have hr := B.returns
  have hts := atoms_spec (ws := wsX2_reducedAt) B.pre
  have hown : s.vm.findClass RX2 = some m.cls := findClass_of_methodNamed B.named
  have hlocks := B.notSynchronized
  subst hsz
  have hD := hD0.self (sz := s.heap.size)
  generalize hAe : va_A [(a_t, .inr (2, [.ref a_t_itemAt, .ref a_t_placeOf, .ref a_t_weights, .ref a_t_profits, .int t_items, .int t_room, .int t_breakPlace, .int t_breakWeight, .int t_breakProfit])), (a_t_profits, .inl (cy 0, 60, .inl t_profits)), (a_t_weights, .inl (cy 0, 60, .inl t_weights))] s.heap.size = A at hD hE ⊢
  have hA : ∀ q : Nat, s.heap.size ≤ q → A q := fun q h => by rw [← hAe]; exact Or.inr h
  have hS : va_S A s.heap s.heap [] := va_S.rf
  have hl := lv_entry ([.ref a_t, .int v1]) (n := 2) (Nat.le_of_ble_eq_true rfl)
  rw [lg_entry_eq]
  generalize (lg_sl ([.ref a_t, .int v1]) ++ List.replicate (2 - (lg_sl ([.ref a_t, .int v1])).length) Slot.unset).toArray = ls at hl ⊢
  have hl : lv_has ls 2 [(0, .ref a_t), (1, .int v1)] := hl
  generalize hQ : MQ below _ _ s _ _ _ = Q
  generalize ([.ref a_t, .int v1] : List Value).toArray = args at hts hQ ⊢
  clear B hD0 hAe
  refine lv_iload_n hx hb dX2_reducedAt_0 rfl (lv_at hl 1 rfl) ?_
  refine lv_if_lt (tgt := 12) hx hb dX2_reducedAt_1 (by decide) (fun c_1 => ?_) (fun c_1 => ?_)
  · replace h := h.1 c_1
    refine lv_lconst (v := 0) hx hb dX2_reducedAt_12 (by decide) ?_
    rw [← hQ]
    exact W.lret (v := (0 : Int64)) hx hb hr (fun t ht hW => ⟨⟨(0 : Int64), (), rfl, h, x_end (w1 := [(a_t, .inr (2, [.ref a_t_itemAt, .ref a_t_placeOf, .ref a_t_weights, .ref a_t_profits, .int t_items, .int t_room, .int t_breakPlace, .int t_breakWeight, .int t_breakProfit])), (a_t_profits, .inl (cy 0, 60, .inl t_profits)), (a_t_weights, .inl (cy 0, 60, .inl t_weights))]) hP hD hK [0, 1, 2] rfl (by decide) rfl ht hW⟩, hS.F ht⟩) hS.2.2 dX2_reducedAt_13
  · replace h := h.2 c_1
    refine lv_iload_n hx hb dX2_reducedAt_4 rfl (lv_at hl 1 rfl) ?_
    refine lv_aload_n hx hb dX2_reducedAt_5 rfl (lv_at hl 0 rfl) ?_
    refine va_get (D := (dC, dI)) (ci := 2) (v := .int t_items) (C := RX2) (T := TX2) (N := 9) hx hb hts iX2_reducedAt_X2 hown hK hP 0 rfl rfl 4 (Nat.le_of_ble_eq_true rfl) (hts _ kX2_reducedAt_1) (fun _ h9 => h9) rfl dX2_reducedAt_6 ?_
    refine lv_icmp_lt (tgt := 14) hx hb dX2_reducedAt_9 (by decide) (fun c_2 => ?_) (fun c_2 => ?_)
    · replace h := h.1 c_2
      refine lv_iload_n hx hb dX2_reducedAt_14 rfl (lv_at hl 1 rfl) ?_
      refine lv_aload_n hx hb dX2_reducedAt_15 rfl (lv_at hl 0 rfl) ?_
      refine va_get (D := (dC, dI)) (ci := 2) (v := .int t_breakPlace) (C := RX2) (T := TX2) (N := 9) hx hb hts iX2_reducedAt_X2 hown hK hP 0 rfl rfl 6 (Nat.le_of_ble_eq_true rfl) (hts _ kX2_reducedAt_2) (fun _ h9 => h9) rfl dX2_reducedAt_16 ?_
      refine lv_icmp_ge (tgt := 57) hx hb dX2_reducedAt_19 (by decide) (fun c_3 => ?_) (fun c_3 => ?_)
      · replace h := h.1 c_3
        refine lv_aload_n hx hb dX2_reducedAt_57 rfl (lv_at hl 0 rfl) ?_
        refine va_get (D := (dC, dI)) (ci := 2) (v := .int t_breakProfit) (C := RX2) (T := TX2) (N := 9) hx hb hts iX2_reducedAt_X2 hown hK hP 0 rfl rfl 8 (Nat.le_of_ble_eq_true rfl) (hts _ kX2_reducedAt_3) (fun _ h9 => h9) rfl dX2_reducedAt_58 ?_
        refine lv_i2l hx hb dX2_reducedAt_61 rfl ?_
        refine lv_aload_n hx hb dX2_reducedAt_62 rfl (lv_at hl 0 rfl) ?_
        refine va_get (D := (dC, dI)) (ci := 2) (v := .ref a_t_profits) (C := RX2) (T := TX2) (N := 9) hx hb hts iX2_reducedAt_X2 hown hK hP 0 rfl rfl 3 (Nat.le_of_ble_eq_true rfl) (hts _ kX2_reducedAt_4) (fun _ h9 => h9) rfl dX2_reducedAt_63 ?_
        refine lv_iload_n hx hb dX2_reducedAt_66 rfl (lv_at hl 1 rfl) ?_
        refine va_iald (D := (dC, dI)) hx hb hK hP 1 0 rfl rfl h.1 dX2_reducedAt_67 ?_
        replace h := h.2
        refine lv_i2l hx hb dX2_reducedAt_68 rfl ?_
        refine lv_ladd hx hb dX2_reducedAt_69 ?_
        refine lv_aload_n hx hb dX2_reducedAt_70 rfl (lv_at hl 0 rfl) ?_
        refine lv_aload_n hx hb dX2_reducedAt_71 rfl (lv_at hl 0 rfl) ?_
        refine va_get (D := (dC, dI)) (ci := 2) (v := .int t_breakPlace) (C := RX2) (T := TX2) (N := 9) hx hb hts iX2_reducedAt_X2 hown hK hP 0 rfl rfl 6 (Nat.le_of_ble_eq_true rfl) (hts _ kX2_reducedAt_2) (fun _ h9 => h9) rfl dX2_reducedAt_72 ?_
        refine lv_aload_n hx hb dX2_reducedAt_75 rfl (lv_at hl 0 rfl) ?_
        refine xVl0 (As := []) (rest := [.int t_breakPlace, .ref a_t, .long ((t_breakProfit).toInt64 + ((t_profits (v1).toNatClampNeg)).toInt64)]) ⟨hx, hb, hml, hown, hts⟩ (mtX2_roomLeft l ad dC dI cy a_t a_t_itemAt a_t_placeOf a_t_weights a_t_profits _ t_items t_room t_breakPlace t_breakWeight t_breakProfit  h) (cwV 0 hts gX2_reducedAt_X2_roomLeft rfl rfl rfl qX2_roomLeft ⟨Nat.le_of_ble_eq_true rfl, Nat.le_of_ble_eq_true rfl⟩) hE hK hP hD hS hA 2 0 rfl rfl rfl [0] rfl (by decide) rfl hl.1 rfl (Nat.le_of_ble_eq_true rfl) dX2_reducedAt_76 ⟨Nat.le_refl _, Nat.le_refl _⟩ (fun r76 H locs h hP hS => ?_)
        try dsimp only at h
        refine lv_aload_n hx hb dX2_reducedAt_79 rfl (lv_at hl 0 rfl) ?_
        refine va_get (D := (dC, dI)) (ci := 2) (v := .ref a_t_weights) (C := RX2) (T := TX2) (N := 9) hx hb hts iX2_reducedAt_X2 hown hK hP 0 rfl rfl 2 (Nat.le_of_ble_eq_true rfl) (hts _ kX2_reducedAt_0) (fun _ h9 => h9) rfl dX2_reducedAt_80 ?_
        refine lv_iload_n hx hb dX2_reducedAt_83 rfl (lv_at hl 1 rfl) ?_
        refine va_iald (D := (dC, dI)) hx hb hK hP 2 0 rfl rfl h.1 dX2_reducedAt_84 ?_
        replace h := h.2
        refine lv_i2l hx hb dX2_reducedAt_85 rfl ?_
        refine lv_lsub hx hb dX2_reducedAt_86 ?_
        refine xVl0 (As := [.int t_breakPlace, .long (r76 - ((t_weights (v1).toNatClampNeg)).toInt64)]) (rest := [.long ((t_breakProfit).toInt64 + ((t_profits (v1).toNatClampNeg)).toInt64)]) ⟨hx, hb, hml, hown, hts⟩ (mtX2_worthDown l ad dC dI cy a_t a_t_itemAt a_t_placeOf a_t_weights a_t_profits _ t_items t_room t_breakPlace t_breakWeight t_breakProfit t_weights t_profits t_breakPlace (r76 - ((t_weights (v1).toNatClampNeg)).toInt64) h) (cwV 2 hts gX2_reducedAt_X2_worthDown rfl rfl rfl qX2_worthDown ⟨Nat.le_of_ble_eq_true rfl, Nat.le_of_ble_eq_true rfl⟩) hE hK hP hD hS hA 2 0 rfl rfl rfl [0, 2, 1] rfl (by decide) rfl hl.1 rfl (Nat.le_of_ble_eq_true rfl) dX2_reducedAt_87 ⟨Nat.le_refl _, Nat.le_refl _⟩ (fun r87 H locs h hP hS => ?_)
        try dsimp only at h
        refine lv_ladd hx hb dX2_reducedAt_90 ?_
        rw [← hQ]
        exact W.lret (v := (((t_breakProfit).toInt64 + ((t_profits (v1).toNatClampNeg)).toInt64) + r87)) hx hb hr (fun t ht hW => ⟨⟨(((t_breakProfit).toInt64 + ((t_profits (v1).toNatClampNeg)).toInt64) + r87), (), rfl, h, x_end (w1 := [(a_t, .inr (2, [.ref a_t_itemAt, .ref a_t_placeOf, .ref a_t_weights, .ref a_t_profits, .int t_items, .int t_room, .int t_breakPlace, .int t_breakWeight, .int t_breakProfit])), (a_t_profits, .inl (cy 0, 60, .inl t_profits)), (a_t_weights, .inl (cy 0, 60, .inl t_weights))]) hP hD hK [0, 1, 2] rfl (by decide) rfl ht hW⟩, hS.F ht⟩) hS.2.2 dX2_reducedAt_91
      · replace h := h.2 c_3
        refine lv_aload_n hx hb dX2_reducedAt_22 rfl (lv_at hl 0 rfl) ?_
        refine va_get (D := (dC, dI)) (ci := 2) (v := .int t_breakProfit) (C := RX2) (T := TX2) (N := 9) hx hb hts iX2_reducedAt_X2 hown hK hP 0 rfl rfl 8 (Nat.le_of_ble_eq_true rfl) (hts _ kX2_reducedAt_3) (fun _ h9 => h9) rfl dX2_reducedAt_23 ?_
        refine lv_i2l hx hb dX2_reducedAt_26 rfl ?_
        refine lv_aload_n hx hb dX2_reducedAt_27 rfl (lv_at hl 0 rfl) ?_
        refine va_get (D := (dC, dI)) (ci := 2) (v := .ref a_t_profits) (C := RX2) (T := TX2) (N := 9) hx hb hts iX2_reducedAt_X2 hown hK hP 0 rfl rfl 3 (Nat.le_of_ble_eq_true rfl) (hts _ kX2_reducedAt_4) (fun _ h9 => h9) rfl dX2_reducedAt_28 ?_
        refine lv_iload_n hx hb dX2_reducedAt_31 rfl (lv_at hl 1 rfl) ?_
        refine va_iald (D := (dC, dI)) hx hb hK hP 1 0 rfl rfl h.1 dX2_reducedAt_32 ?_
        replace h := h.2
        refine lv_i2l hx hb dX2_reducedAt_33 rfl ?_
        refine lv_lsub hx hb dX2_reducedAt_34 ?_
        refine lv_aload_n hx hb dX2_reducedAt_35 rfl (lv_at hl 0 rfl) ?_
        refine lv_aload_n hx hb dX2_reducedAt_36 rfl (lv_at hl 0 rfl) ?_
        refine va_get (D := (dC, dI)) (ci := 2) (v := .int t_breakPlace) (C := RX2) (T := TX2) (N := 9) hx hb hts iX2_reducedAt_X2 hown hK hP 0 rfl rfl 6 (Nat.le_of_ble_eq_true rfl) (hts _ kX2_reducedAt_2) (fun _ h9 => h9) rfl dX2_reducedAt_37 ?_
        refine lv_aload_n hx hb dX2_reducedAt_40 rfl (lv_at hl 0 rfl) ?_
        refine xVl0 (As := []) (rest := [.int t_breakPlace, .ref a_t, .long ((t_breakProfit).toInt64 - ((t_profits (v1).toNatClampNeg)).toInt64)]) ⟨hx, hb, hml, hown, hts⟩ (mtX2_roomLeft l ad dC dI cy a_t a_t_itemAt a_t_placeOf a_t_weights a_t_profits _ t_items t_room t_breakPlace t_breakWeight t_breakProfit  h) (cwV 0 hts gX2_reducedAt_X2_roomLeft rfl rfl rfl qX2_roomLeft ⟨Nat.le_of_ble_eq_true rfl, Nat.le_of_ble_eq_true rfl⟩) hE hK hP hD hS hA 2 0 rfl rfl rfl [0] rfl (by decide) rfl hl.1 rfl (Nat.le_of_ble_eq_true rfl) dX2_reducedAt_41 ⟨Nat.le_refl _, Nat.le_refl _⟩ (fun r41 H locs h hP hS => ?_)
        try dsimp only at h
        refine lv_aload_n hx hb dX2_reducedAt_44 rfl (lv_at hl 0 rfl) ?_
        refine va_get (D := (dC, dI)) (ci := 2) (v := .ref a_t_weights) (C := RX2) (T := TX2) (N := 9) hx hb hts iX2_reducedAt_X2 hown hK hP 0 rfl rfl 2 (Nat.le_of_ble_eq_true rfl) (hts _ kX2_reducedAt_0) (fun _ h9 => h9) rfl dX2_reducedAt_45 ?_
        refine lv_iload_n hx hb dX2_reducedAt_48 rfl (lv_at hl 1 rfl) ?_
        refine va_iald (D := (dC, dI)) hx hb hK hP 2 0 rfl rfl h.1 dX2_reducedAt_49 ?_
        replace h := h.2
        refine lv_i2l hx hb dX2_reducedAt_50 rfl ?_
        refine lv_ladd hx hb dX2_reducedAt_51 ?_
        refine xVl0 (As := [.int t_breakPlace, .long (r41 + ((t_weights (v1).toNatClampNeg)).toInt64)]) (rest := [.long ((t_breakProfit).toInt64 - ((t_profits (v1).toNatClampNeg)).toInt64)]) ⟨hx, hb, hml, hown, hts⟩ (mtX2_worthDown l ad dC dI cy a_t a_t_itemAt a_t_placeOf a_t_weights a_t_profits _ t_items t_room t_breakPlace t_breakWeight t_breakProfit t_weights t_profits t_breakPlace (r41 + ((t_weights (v1).toNatClampNeg)).toInt64) h) (cwV 2 hts gX2_reducedAt_X2_worthDown rfl rfl rfl qX2_worthDown ⟨Nat.le_of_ble_eq_true rfl, Nat.le_of_ble_eq_true rfl⟩) hE hK hP hD hS hA 2 0 rfl rfl rfl [0, 2, 1] rfl (by decide) rfl hl.1 rfl (Nat.le_of_ble_eq_true rfl) dX2_reducedAt_52 ⟨Nat.le_refl _, Nat.le_refl _⟩ (fun r52 H locs h hP hS => ?_)
        try dsimp only at h
        refine lv_ladd hx hb dX2_reducedAt_55 ?_
        rw [← hQ]
        exact W.lret (v := (((t_breakProfit).toInt64 - ((t_profits (v1).toNatClampNeg)).toInt64) + r52)) hx hb hr (fun t ht hW => ⟨⟨(((t_breakProfit).toInt64 - ((t_profits (v1).toNatClampNeg)).toInt64) + r52), (), rfl, h, x_end (w1 := [(a_t, .inr (2, [.ref a_t_itemAt, .ref a_t_placeOf, .ref a_t_weights, .ref a_t_profits, .int t_items, .int t_room, .int t_breakPlace, .int t_breakWeight, .int t_breakProfit])), (a_t_profits, .inl (cy 0, 60, .inl t_profits)), (a_t_weights, .inl (cy 0, 60, .inl t_weights))]) hP hD hK [0, 1, 2] rfl (by decide) rfl ht hW⟩, hS.F ht⟩) hS.2.2 dX2_reducedAt_56
    · replace h := h.2 c_2
      refine lv_lconst (v := 0) hx hb dX2_reducedAt_12 (by decide) ?_
      rw [← hQ]
      exact W.lret (v := (0 : Int64)) hx hb hr (fun t ht hW => ⟨⟨(0 : Int64), (), rfl, h, x_end (w1 := [(a_t, .inr (2, [.ref a_t_itemAt, .ref a_t_placeOf, .ref a_t_weights, .ref a_t_profits, .int t_items, .int t_room, .int t_breakPlace, .int t_breakWeight, .int t_breakProfit])), (a_t_profits, .inl (cy 0, 60, .inl t_profits)), (a_t_weights, .inl (cy 0, 60, .inl t_weights))]) hP hD hK [0, 1, 2] rfl (by decide) rfl ht hW⟩, hS.F ht⟩) hS.2.2 dX2_reducedAt_13

def wX3_behindBlanks_23 (p0 : Nat → Int32) (n_p0 : Nat) (K2 : Int32 → Int32 → Prop) (post : Int32 → Prop) (v2 v3 : Int32) : Prop :=
  K2 v2 (v3 + (1 : Int32))
def wX3_behindBlanks_2_b (p0 : Nat → Int32) (n_p0 : Nat) (post : Int32 → Prop) (K2 : Int32 → Int32 → Prop) (v2 v3 : Int32) : Prop :=
  (v2 ≤ v3 → post v3) ∧ (¬ v2 ≤ v3 → vp_in v3 n_p0 ∧ ((p0 (v3).toNatClampNeg) = (32 : Int32) → wX3_behindBlanks_23 p0 n_p0 K2 post v2 v3) ∧ (¬ (p0 (v3).toNatClampNeg) = (32 : Int32) → vp_in v3 n_p0 ∧ ((p0 (v3).toNatClampNeg) = (10 : Int32) → wX3_behindBlanks_23 p0 n_p0 K2 post v2 v3) ∧ (¬ (p0 (v3).toNatClampNeg) = (10 : Int32) → post v3)))
def wX3_behindBlanks_2 (p0 : Nat → Int32) (n_p0 : Nat) (post : Int32 → Prop) : Nat → Int32 → Int32 → Prop
  | 0 => fun _ _ => False
  | n + 1 => wX3_behindBlanks_2_b p0 n_p0 post (wX3_behindBlanks_2 p0 n_p0 post n)
/-- KnapsackCore$Reader.behindBlanks([BII)I -/
def wX3_behindBlanks (p0 : Nat → Int32) (n_p0 : Nat) (post : Int32 → Prop) (v1 v2 : Int32) : Prop :=
  ∃ n : Nat, wX3_behindBlanks_2 p0 n_p0 post n v2 v1
set_option maxHeartbeats 4000000 in
set_option maxRecDepth 100000 in
theorem mtX3_behindBlanks (l : Launch) (ad : (Nat → Nat) × (Nat → Nat)) (dC : Nat → ClassId) (dI : Nat → Nat → Nat) (cy : Nat → ClassId) (a_p0 : Nat) (sz : Nat) (p0 : Nat → Int32) (n_p0 : Nat) (v1 v2 : Int32) {post : Int32 → Prop} (h : wX3_behindBlanks p0 n_p0 post v1 v2) : xMi l yX3_behindBlanks wsX3_behindBlanks ({ frames := 0, cells := 0, slots := 0, locals := 0 } : Room) ad (dC, dI) vwCl (xT cy) [.ref a_p0, .int v1, .int v2] [(a_p0, .inl (cy 2, n_p0, .inl p0))] sz (fun (r : Int32) (_ : Unit) => post r) (fun (_ : Unit) w => w = [(a_p0, .inl (cy 2, n_p0, .inl p0))]) 0 0 := by
  unfold xMi
  refine Met.ofW (cc := cX3_behindBlanks) (maxL := 4) (ret := (some .int)) (by decide +kernel) rfl ?_
  intro p e s m args below meth c s₁ B hml hv
  obtain ⟨rfl, hsz, hP, hK, hD0, hE⟩ := hv
  have hx := B.exec
  have hb := B.bytes
  have hr := B.returns
  have hts := atoms_spec (ws := wsX3_behindBlanks) B.pre
  have hown : s.vm.findClass RX3 = some m.cls := findClass_of_methodNamed B.named
  have hlocks := B.notSynchronized
  subst hsz
  have hD := hD0.self (sz := s.heap.size)
  generalize hAe : va_A [(a_p0, .inl (cy 2, n_p0, .inl p0))] s.heap.size = A at hD hE ⊢
  have hA : ∀ q : Nat, s.heap.size ≤ q → A q := fun q h => by rw [← hAe]; exact Or.inr h
  have hS : va_S A s.heap s.heap [] := va_S.rf
  have hl := lv_entry ([.ref a_p0, .int v1, .int v2]) (n := 4) (Nat.le_of_ble_eq_true rfl)
  rw [lg_entry_eq]
  generalize (lg_sl ([.ref a_p0, .int v1, .int v2]) ++ List.replicate (4 - (lg_sl ([.ref a_p0, .int v1, .int v2])).length) Slot.unset).toArray = ls at hl ⊢
  have hl : lv_has ls 4 [(0, .ref a_p0), (1, .int v1), (2, .int v2)] := hl
  generalize hQ : MQ below _ _ s _ _ _ = Q
  generalize ([.ref a_p0, .int v1, .int v2] : List Value).toArray = args at hts hQ ⊢
  clear B hD0 hAe
  have L2 : ∀ n : Nat, ∀ (v2 v3 : Int32), wX3_behindBlanks_2 p0 n_p0 post n v2 v3 → ∀ (H : Heap) (locs : List Loc) (ls : Array Slot), va_P (dC, dI) vwCl [(a_p0, .inl (cy 2, n_p0, .inl p0))] H → va_D A [(a_p0, .inl (cy 2, n_p0, .inl p0))] → va_S A s.heap H locs → lv_has ls 4 [(0, .ref a_p0), (2, .int v2), (3, .int v3)] → W p l e (headSpec wsX3_behindBlanks ({ frames := 0, cells := 0, slots := 0, locals := 0 } : Room)).room s m args below meth c H locs 0 0 Q (F0 m 2 ls []) := by
    intro n
    induction n with
    | zero => intro v2 v3 h; exact False.elim h
    | succ n2 ih2 =>
      have C23 : ∀ (v2 v3 : Int32), wX3_behindBlanks_23 p0 n_p0 (wX3_behindBlanks_2 p0 n_p0 post n2) post v2 v3 → ∀ (H : Heap) (locs : List Loc) (ls : Array Slot), va_P (dC, dI) vwCl [(a_p0, .inl (cy 2, n_p0, .inl p0))] H → va_D A [(a_p0, .inl (cy 2, n_p0, .inl p0))] → va_S A s.heap H locs → lv_has ls 4 [(0, .ref a_p0), (2, .int v2), (3, .int v3)] → W p l e (headSpec wsX3_behindBlanks ({ frames := 0, cells := 0, slots := 0, locals := 0 } : Room)).room s m args below meth c H locs 0 0 Q (F0 m 23 ls []) := by
        intro v2 v3 h H locs ls hP hD hS hl
        refine lv_iinc (v := (v3 + (1 : Int32))) (lv' := [(3, .int (v3 + (1 : Int32))), (0, .ref a_p0), (2, .int v2)]) hx hb dX3_behindBlanks_23 hl (k := 2) rfl rfl (by decide) rfl (fun ls hl => ?_)
        refine lv_goto (tgt := 2) hx hb dX3_behindBlanks_26 (by decide) ?_
        exact ih2 v2 (v3 + (1 : Int32)) h _ _ _ (x_sub hP [0] rfl) (hD.sub [0] (by decide) rfl) hS (lv_sub hl [1, 2, 0] rfl)
      intro v2 v3 h H locs ls hP hD hS hl
      replace h : wX3_behindBlanks_2_b p0 n_p0 post (wX3_behindBlanks_2 p0 n_p0 post n2) v2 v3 := h
      refine lv_iload_n hx hb dX3_behindBlanks_2 rfl (lv_at hl 2 rfl) ?_
      refine lv_iload_n hx hb dX3_behindBlanks_3 rfl (lv_at hl 1 rfl) ?_
      refine lv_icmp_ge (tgt := 29) hx hb dX3_behindBlanks_4 (by decide) (fun c_1 => ?_) (fun c_1 => ?_)
      · replace h := h.1 c_1
        refine lv_iload_n hx hb dX3_behindBlanks_29 rfl (lv_at hl 2 rfl) ?_
        rw [← hQ]
        exact W.iret (v := v3) hx hb hr (fun t ht hW => ⟨⟨v3, (), rfl, h, x_end (w1 := [(a_p0, .inl (cy 2, n_p0, .inl p0))]) hP hD hK [0] rfl (by decide) rfl ht hW⟩, hS.F ht⟩) hS.2.2 dX3_behindBlanks_30
      · replace h := h.2 c_1
        refine lv_aload_n hx hb dX3_behindBlanks_7 rfl (lv_at hl 0 rfl) ?_
        refine lv_iload_n hx hb dX3_behindBlanks_8 rfl (lv_at hl 2 rfl) ?_
        refine va_bald (D := (dC, dI)) hx hb hK hP 0 2 rfl rfl h.1 dX3_behindBlanks_9 ?_
        replace h := h.2
        refine lv_bipush (v := 32) hx hb dX3_behindBlanks_10 (by decide) ?_
        refine lv_icmp_eq (tgt := 23) hx hb dX3_behindBlanks_12 (by decide) (fun c_2 => ?_) (fun c_2 => ?_)
        · replace h := h.1 c_2
          exact C23 v2 v3 h _ _ _ (x_sub hP [0] rfl) (hD.sub [0] (by decide) rfl) hS (lv_sub hl [0, 1, 2] rfl)
        · replace h := h.2 c_2
          refine lv_aload_n hx hb dX3_behindBlanks_15 rfl (lv_at hl 0 rfl) ?_
          refine lv_iload_n hx hb dX3_behindBlanks_16 rfl (lv_at hl 2 rfl) ?_
          refine va_bald (D := (dC, dI)) hx hb hK hP 0 2 rfl rfl h.1 dX3_behindBlanks_17 ?_
          replace h := h.2
          refine lv_bipush (v := 10) hx hb dX3_behindBlanks_18 (by decide) ?_
          refine lv_icmp_ne (tgt := 29) hx hb dX3_behindBlanks_20 (by decide) (fun c_3 => ?_) (fun c_3 => ?_)
          · replace h := h.2 c_3
            refine lv_iload_n hx hb dX3_behindBlanks_29 rfl (lv_at hl 2 rfl) ?_
            rw [← hQ]
            exact W.iret (v := v3) hx hb hr (fun t ht hW => ⟨⟨v3, (), rfl, h, x_end (w1 := [(a_p0, .inl (cy 2, n_p0, .inl p0))]) hP hD hK [0] rfl (by decide) rfl ht hW⟩, hS.F ht⟩) hS.2.2 dX3_behindBlanks_30
          · replace h := h.1 c_3
            exact C23 v2 v3 h _ _ _ (x_sub hP [0] rfl) (hD.sub [0] (by decide) rfl) hS (lv_sub hl [0, 1, 2] rfl)
  refine lv_iload_n hx hb dX3_behindBlanks_0 rfl (lv_at hl 1 rfl) ?_
  refine lv_istore_n (lv' := [(3, .int v1), (0, .ref a_p0), (1, .int v1), (2, .int v2)]) hx hb dX3_behindBlanks_1 rfl hl (by decide) rfl (fun ls hl => ?_)
  obtain ⟨n9, h⟩ := h
  exact L2 n9 v2 v1 h _ _ _ (x_sub hP [0] rfl) (hD.sub [0] (by decide) rfl) hS (lv_sub hl [1, 3, 0] rfl)

/-- KnapsackCore$Reader.isLetter(B)Z -/
def wX3_isLetter (post : Int32 → Prop) (v0 : Int32) : Prop :=
  (v0 < (97 : Int32) → post (0 : Int32)) ∧ (¬ v0 < (97 : Int32) → ((122 : Int32) < v0 → post (0 : Int32)) ∧ (¬ (122 : Int32) < v0 → post (1 : Int32)))
set_option maxHeartbeats 4000000 in
set_option maxRecDepth 100000 in
theorem mtX3_isLetter (l : Launch) (ad : (Nat → Nat) × (Nat → Nat)) (dC : Nat → ClassId) (dI : Nat → Nat → Nat) (cy : Nat → ClassId) (sz : Nat) (v0 : Int32) {post : Int32 → Prop} (h : wX3_isLetter post v0) : xMi l yX3_isLetter wsX3_isLetter ({ frames := 0, cells := 0, slots := 0, locals := 0 } : Room) ad (dC, dI) vwCl (xT cy) [.int v0] [] sz (fun (r : Int32) (_ : Unit) => post r) (fun (_ : Unit) w => w = []) 0 0 := by
  unfold xMi
  refine Met.ofW (cc := cX3_isLetter) (maxL := 1) (ret := (some .boolean)) (by decide +kernel) rfl ?_
  intro p e s m args below meth c s₁ B hml hv
  obtain ⟨rfl, hsz, hP, hK, hD0, hE⟩ := hv
  have hx := B.exec
  have hb := B.bytes
  have hr := B.returns
  have hts := atoms_spec (ws := wsX3_isLetter) B.pre
  have hown : s.vm.findClass RX3 = some m.cls := findClass_of_methodNamed B.named
  have hlocks := B.notSynchronized
  subst hsz
  have hD := hD0.self (sz := s.heap.size)
  generalize hAe : va_A [] s.heap.size = A at hD hE ⊢
  have hA : ∀ q : Nat, s.heap.size ≤ q → A q := fun q h => by rw [← hAe]; exact Or.inr h
  have hS : va_S A s.heap s.heap [] := va_S.rf
  have hl := lv_entry ([.int v0]) (n := 1) (Nat.le_of_ble_eq_true rfl)
  rw [lg_entry_eq]
  generalize (lg_sl ([.int v0]) ++ List.replicate (1 - (lg_sl ([.int v0])).length) Slot.unset).toArray = ls at hl ⊢
  have hl : lv_has ls 1 [(0, .int v0)] := hl
  generalize hQ : MQ below _ _ s _ _ _ = Q
  generalize ([.int v0] : List Value).toArray = args at hts hQ ⊢
  clear B hD0 hAe
  refine lv_iload_n hx hb dX3_isLetter_0 rfl (lv_at hl 0 rfl) ?_
  refine lv_bipush (v := 97) hx hb dX3_isLetter_1 (by decide) ?_
  refine lv_icmp_lt (tgt := 16) hx hb dX3_isLetter_3 (by decide) (fun c_1 => ?_) (fun c_1 => ?_)
  · replace h := h.1 c_1
    refine lv_iconst (v := 0) hx hb dX3_isLetter_16 (by decide) ?_
    rw [← hQ]
    exact W.zret (v := (0 : Int32)) hx hb hr rfl (fun t ht hW => ⟨⟨(0 : Int32), (), rfl, h, x_end (w1 := []) hP hD hK [] rfl (by decide) rfl ht hW⟩, hS.F ht⟩) hS.2.2 dX3_isLetter_17
  · replace h := h.2 c_1
    refine lv_iload_n hx hb dX3_isLetter_6 rfl (lv_at hl 0 rfl) ?_
    refine lv_bipush (v := 122) hx hb dX3_isLetter_7 (by decide) ?_
    refine lv_icmp_gt (tgt := 16) hx hb dX3_isLetter_9 (by decide) (fun c_2 => ?_) (fun c_2 => ?_)
    · replace h := h.1 c_2
      refine lv_iconst (v := 0) hx hb dX3_isLetter_16 (by decide) ?_
      rw [← hQ]
      exact W.zret (v := (0 : Int32)) hx hb hr rfl (fun t ht hW => ⟨⟨(0 : Int32), (), rfl, h, x_end (w1 := []) hP hD hK [] rfl (by decide) rfl ht hW⟩, hS.F ht⟩) hS.2.2 dX3_isLetter_17
    · replace h := h.2 c_2
      refine lv_iconst (v := 1) hx hb dX3_isLetter_12 (by decide) ?_
      refine lv_goto (tgt := 17) hx hb dX3_isLetter_13 (by decide) ?_
      rw [← hQ]
      exact W.zret (v := (1 : Int32)) hx hb hr rfl (fun t ht hW => ⟨⟨(1 : Int32), (), rfl, h, x_end (w1 := []) hP hD hK [] rfl (by decide) rfl ht hW⟩, hS.F ht⟩) hS.2.2 dX3_isLetter_17

/-- KnapsackCore$Reader.isDigit(B)Z -/
def wX3_isDigit (post : Int32 → Prop) (v0 : Int32) : Prop :=
  (v0 < (48 : Int32) → post (0 : Int32)) ∧ (¬ v0 < (48 : Int32) → ((57 : Int32) < v0 → post (0 : Int32)) ∧ (¬ (57 : Int32) < v0 → post (1 : Int32)))
set_option maxHeartbeats 4000000 in
set_option maxRecDepth 100000 in
theorem mtX3_isDigit (l : Launch) (ad : (Nat → Nat) × (Nat → Nat)) (dC : Nat → ClassId) (dI : Nat → Nat → Nat) (cy : Nat → ClassId) (sz : Nat) (v0 : Int32) {post : Int32 → Prop} (h : wX3_isDigit post v0) : xMi l yX3_isDigit wsX3_isDigit ({ frames := 0, cells := 0, slots := 0, locals := 0 } : Room) ad (dC, dI) vwCl (xT cy) [.int v0] [] sz (fun (r : Int32) (_ : Unit) => post r) (fun (_ : Unit) w => w = []) 0 0 := by
  unfold xMi
  refine Met.ofW (cc := cX3_isDigit) (maxL := 1) (ret := (some .boolean)) (by decide +kernel) rfl ?_
  intro p e s m args below meth c s₁ B hml hv
  obtain ⟨rfl, hsz, hP, hK, hD0, hE⟩ := hv
  have hx := B.exec
  have hb := B.bytes
  have hr := B.returns
  have hts := atoms_spec (ws := wsX3_isDigit) B.pre
  have hown : s.vm.findClass RX3 = some m.cls := findClass_of_methodNamed B.named
  have hlocks := B.notSynchronized
  subst hsz
  have hD := hD0.self (sz := s.heap.size)
  generalize hAe : va_A [] s.heap.size = A at hD hE ⊢
  have hA : ∀ q : Nat, s.heap.size ≤ q → A q := fun q h => by rw [← hAe]; exact Or.inr h
  have hS : va_S A s.heap s.heap [] := va_S.rf
  have hl := lv_entry ([.int v0]) (n := 1) (Nat.le_of_ble_eq_true rfl)
  rw [lg_entry_eq]
  generalize (lg_sl ([.int v0]) ++ List.replicate (1 - (lg_sl ([.int v0])).length) Slot.unset).toArray = ls at hl ⊢
  have hl : lv_has ls 1 [(0, .int v0)] := hl
  generalize hQ : MQ below _ _ s _ _ _ = Q
  generalize ([.int v0] : List Value).toArray = args at hts hQ ⊢
  clear B hD0 hAe
  refine lv_iload_n hx hb dX3_isDigit_0 rfl (lv_at hl 0 rfl) ?_
  refine lv_bipush (v := 48) hx hb dX3_isDigit_1 (by decide) ?_
  refine lv_icmp_lt (tgt := 16) hx hb dX3_isDigit_3 (by decide) (fun c_1 => ?_) (fun c_1 => ?_)
  · replace h := h.1 c_1
    refine lv_iconst (v := 0) hx hb dX3_isDigit_16 (by decide) ?_
    rw [← hQ]
    exact W.zret (v := (0 : Int32)) hx hb hr rfl (fun t ht hW => ⟨⟨(0 : Int32), (), rfl, h, x_end (w1 := []) hP hD hK [] rfl (by decide) rfl ht hW⟩, hS.F ht⟩) hS.2.2 dX3_isDigit_17
  · replace h := h.2 c_1
    refine lv_iload_n hx hb dX3_isDigit_6 rfl (lv_at hl 0 rfl) ?_
    refine lv_bipush (v := 57) hx hb dX3_isDigit_7 (by decide) ?_
    refine lv_icmp_gt (tgt := 16) hx hb dX3_isDigit_9 (by decide) (fun c_2 => ?_) (fun c_2 => ?_)
    · replace h := h.1 c_2
      refine lv_iconst (v := 0) hx hb dX3_isDigit_16 (by decide) ?_
      rw [← hQ]
      exact W.zret (v := (0 : Int32)) hx hb hr rfl (fun t ht hW => ⟨⟨(0 : Int32), (), rfl, h, x_end (w1 := []) hP hD hK [] rfl (by decide) rfl ht hW⟩, hS.F ht⟩) hS.2.2 dX3_isDigit_17
    · replace h := h.2 c_2
      refine lv_iconst (v := 1) hx hb dX3_isDigit_12 (by decide) ?_
      refine lv_goto (tgt := 17) hx hb dX3_isDigit_13 (by decide) ?_
      rw [← hQ]
      exact W.zret (v := (1 : Int32)) hx hb hr rfl (fun t ht hW => ⟨⟨(1 : Int32), (), rfl, h, x_end (w1 := []) hP hD hK [] rfl (by decide) rfl ht hW⟩, hS.F ht⟩) hS.2.2 dX3_isDigit_17

theorem qX3_isDigit : yX3_isDigit.cls = RX3 ∧ yX3_isDigit.cls ≠ "java/lang/invoke/MethodHandle" ∧ yX3_isDigit.cls ≠ "java/lang/invoke/VarHandle" ∧ (parseMethodDescriptor yX3_isDigit.desc).map (fun d => d.parameters.length) = some 1 := by decide +kernel
theorem qX3_isLetter : yX3_isLetter.cls = RX3 ∧ yX3_isLetter.cls ≠ "java/lang/invoke/MethodHandle" ∧ yX3_isLetter.cls ≠ "java/lang/invoke/VarHandle" ∧ (parseMethodDescriptor yX3_isLetter.desc).map (fun d => d.parameters.length) = some 1 := by decide +kernel
def wX3_endOfToken_62 (p0 : Nat → Int32) (n_p0 : Nat) (post : Int32 → Prop) (v1 v3 : Int32) : Prop :=
  ((v3 - v1) ≤ (10 : Int32) → post v3) ∧ (¬ (v3 - v1) ≤ (10 : Int32) → post v1)
def wX3_endOfToken_53 (p0 : Nat → Int32) (n_p0 : Nat) (K42 : Int32 → Int32 → Int32 → Prop) (post : Int32 → Prop) (v1 v2 v3 k0 : Int32) : Prop :=
  (k0 = (0 : Int32) → wX3_endOfToken_62 p0 n_p0 post v1 v3) ∧ (¬ k0 = (0 : Int32) → K42 v1 v2 (v3 + (1 : Int32)))
def wX3_endOfToken_42_b (p0 : Nat → Int32) (n_p0 : Nat) (post : Int32 → Prop) (K42 : Int32 → Int32 → Int32 → Prop) (v1 v2 v3 : Int32) : Prop :=
  (v2 ≤ v3 → wX3_endOfToken_62 p0 n_p0 post v1 v3) ∧ (¬ v2 ≤ v3 → vp_in v3 n_p0 ∧ wX3_isDigit (fun r50 => wX3_endOfToken_53 p0 n_p0 K42 post v1 v2 v3 r50) (p0 (v3).toNatClampNeg))
def wX3_endOfToken_42 (p0 : Nat → Int32) (n_p0 : Nat) (post : Int32 → Prop) : Nat → Int32 → Int32 → Int32 → Prop
  | 0 => fun _ _ _ => False
  | n + 1 => wX3_endOfToken_42_b p0 n_p0 post (wX3_endOfToken_42 p0 n_p0 post n)
def wX3_endOfToken_39 (p0 : Nat → Int32) (n_p0 : Nat) (post : Int32 → Prop) (v1 v2 v3 k0 : Int32) : Prop :=
  (k0 = (0 : Int32) → vp_in v1 n_p0 ∧ ((p0 (v1).toNatClampNeg) = (59 : Int32) → post (v1 + (1 : Int32))) ∧ (¬ (p0 (v1).toNatClampNeg) = (59 : Int32) → post v1)) ∧ (¬ k0 = (0 : Int32) → ∃ n : Nat, wX3_endOfToken_42 p0 n_p0 post n v1 v2 v3)
def wX3_endOfToken_22 (p0 : Nat → Int32) (n_p0 : Nat) (K11 : Int32 → Int32 → Prop) (post : Int32 → Prop) (v2 v3 k0 : Int32) : Prop :=
  (k0 = (0 : Int32) → post v3) ∧ (¬ k0 = (0 : Int32) → K11 v2 (v3 + (1 : Int32)))
def wX3_endOfToken_11_b (p0 : Nat → Int32) (n_p0 : Nat) (post : Int32 → Prop) (K11 : Int32 → Int32 → Prop) (v2 v3 : Int32) : Prop :=
  (v2 ≤ v3 → post v3) ∧ (¬ v2 ≤ v3 → vp_in v3 n_p0 ∧ wX3_isLetter (fun r19 => wX3_endOfToken_22 p0 n_p0 K11 post v2 v3 r19) (p0 (v3).toNatClampNeg))
def wX3_endOfToken_11 (p0 : Nat → Int32) (n_p0 : Nat) (post : Int32 → Prop) : Nat → Int32 → Int32 → Prop
  | 0 => fun _ _ => False
  | n + 1 => wX3_endOfToken_11_b p0 n_p0 post (wX3_endOfToken_11 p0 n_p0 post n)
def wX3_endOfToken_8 (p0 : Nat → Int32) (n_p0 : Nat) (post : Int32 → Prop) (v1 v2 v3 k0 : Int32) : Prop :=
  (k0 = (0 : Int32) → vp_in v1 n_p0 ∧ wX3_isDigit (fun r36 => wX3_endOfToken_39 p0 n_p0 post v1 v2 v3 r36) (p0 (v1).toNatClampNeg)) ∧ (¬ k0 = (0 : Int32) → ∃ n : Nat, wX3_endOfToken_11 p0 n_p0 post n v2 v3)
/-- KnapsackCore$Reader.endOfToken([BII)I -/
def wX3_endOfToken (p0 : Nat → Int32) (n_p0 : Nat) (post : Int32 → Prop) (v1 v2 : Int32) : Prop :=
  vp_in v1 n_p0 ∧ wX3_isLetter (fun r5 => wX3_endOfToken_8 p0 n_p0 post v1 v2 v1 r5) (p0 (v1).toNatClampNeg)
set_option maxHeartbeats 4000000 in
set_option maxRecDepth 100000 in
theorem mtX3_endOfToken (l : Launch) (ad : (Nat → Nat) × (Nat → Nat)) (dC : Nat → ClassId) (dI : Nat → Nat → Nat) (cy : Nat → ClassId) (a_p0 : Nat) (sz : Nat) (p0 : Nat → Int32) (n_p0 : Nat) (v1 v2 : Int32) {post : Int32 → Prop} (h : wX3_endOfToken p0 n_p0 post v1 v2) : xMi l yX3_endOfToken wsX3_endOfToken ({ frames := 1, cells := 0, slots := 0, locals := 20 } : Room) ad (dC, dI) vwCl (xT cy) [.ref a_p0, .int v1, .int v2] [(a_p0, .inl (cy 2, n_p0, .inl p0))] sz (fun (r : Int32) (_ : Unit) => post r) (fun (_ : Unit) w => w = [(a_p0, .inl (cy 2, n_p0, .inl p0))]) 0 0 := by
  unfold xMi
  refine Met.ofW (cc := cX3_endOfToken) (maxL := 4) (ret := (some .int)) (by decide +kernel) rfl ?_
  intro p e s m args below meth c s₁ B hml hv
  obtain ⟨rfl, hsz, hP, hK, hD0, hE⟩ := hv
  have hx := B.exec
  have hb := B.bytes
  have hr := B.returns
  have hts := atoms_spec (ws := wsX3_endOfToken) B.pre
  have hown : s.vm.findClass RX3 = some m.cls := findClass_of_methodNamed B.named
  have hlocks := B.notSynchronized
  subst hsz
  have hD := hD0.self (sz := s.heap.size)
  generalize hAe : va_A [(a_p0, .inl (cy 2, n_p0, .inl p0))] s.heap.size = A at hD hE ⊢
  have hA : ∀ q : Nat, s.heap.size ≤ q → A q := fun q h => by rw [← hAe]; exact Or.inr h
  have hS : va_S A s.heap s.heap [] := va_S.rf
  have hl := lv_entry ([.ref a_p0, .int v1, .int v2]) (n := 4) (Nat.le_of_ble_eq_true rfl)
  rw [lg_entry_eq]
  generalize (lg_sl ([.ref a_p0, .int v1, .int v2]) ++ List.replicate (4 - (lg_sl ([.ref a_p0, .int v1, .int v2])).length) Slot.unset).toArray = ls at hl ⊢
  have hl : lv_has ls 4 [(0, .ref a_p0), (1, .int v1), (2, .int v2)] := hl
  generalize hQ : MQ below _ _ s _ _ _ = Q
  generalize ([.ref a_p0, .int v1, .int v2] : List Value).toArray = args at hts hQ ⊢
  clear B hD0 hAe
  have C62 : ∀ (v1 v3 : Int32), wX3_endOfToken_62 p0 n_p0 post v1 v3 → ∀ (H : Heap) (locs : List Loc) (ls : Array Slot), va_P (dC, dI) vwCl [(a_p0, .inl (cy 2, n_p0, .inl p0))] H → va_D A [(a_p0, .inl (cy 2, n_p0, .inl p0))] → va_S A s.heap H locs → lv_has ls 4 [(1, .int v1), (3, .int v3)] → W p l e (headSpec wsX3_endOfToken ({ frames := 1, cells := 0, slots := 0, locals := 20 } : Room)).room s m args below meth c H locs 0 0 Q (F0 m 62 ls []) := by
    intro v1 v3 h H locs ls hP hD hS hl
    refine lv_iload_n hx hb dX3_endOfToken_62 rfl (lv_at hl 1 rfl) ?_
    refine lv_iload_n hx hb dX3_endOfToken_63 rfl (lv_at hl 0 rfl) ?_
    refine lv_isub hx hb dX3_endOfToken_64 ?_
    refine lv_bipush (v := 10) hx hb dX3_endOfToken_65 (by decide) ?_
    refine lv_icmp_le (tgt := 74) hx hb dX3_endOfToken_67 (by decide) (fun c_1 => ?_) (fun c_1 => ?_)
    · replace h := h.1 c_1
      refine lv_iload_n hx hb dX3_endOfToken_74 rfl (lv_at hl 1 rfl) ?_
      rw [← hQ]
      exact W.iret (v := v3) hx hb hr (fun t ht hW => ⟨⟨v3, (), rfl, h, x_end (w1 := [(a_p0, .inl (cy 2, n_p0, .inl p0))]) hP hD hK [0] rfl (by decide) rfl ht hW⟩, hS.F ht⟩) hS.2.2 dX3_endOfToken_75
    · replace h := h.2 c_1
      refine lv_iload_n hx hb dX3_endOfToken_70 rfl (lv_at hl 0 rfl) ?_
      refine lv_goto (tgt := 75) hx hb dX3_endOfToken_71 (by decide) ?_
      rw [← hQ]
      exact W.iret (v := v1) hx hb hr (fun t ht hW => ⟨⟨v1, (), rfl, h, x_end (w1 := [(a_p0, .inl (cy 2, n_p0, .inl p0))]) hP hD hK [0] rfl (by decide) rfl ht hW⟩, hS.F ht⟩) hS.2.2 dX3_endOfToken_75
  have L42 : ∀ n : Nat, ∀ (v1 v2 v3 : Int32), wX3_endOfToken_42 p0 n_p0 post n v1 v2 v3 → ∀ (H : Heap) (locs : List Loc) (ls : Array Slot), va_P (dC, dI) vwCl [(a_p0, .inl (cy 2, n_p0, .inl p0))] H → va_D A [(a_p0, .inl (cy 2, n_p0, .inl p0))] → va_S A s.heap H locs → lv_has ls 4 [(0, .ref a_p0), (1, .int v1), (2, .int v2), (3, .int v3)] → W p l e (headSpec wsX3_endOfToken ({ frames := 1, cells := 0, slots := 0, locals := 20 } : Room)).room s m args below meth c H locs 0 0 Q (F0 m 42 ls []) := by
    intro n
    induction n with
    | zero => intro v1 v2 v3 h; exact False.elim h
    | succ n42 ih42 =>
      intro v1 v2 v3 h H locs ls hP hD hS hl
      replace h : wX3_endOfToken_42_b p0 n_p0 post (wX3_endOfToken_42 p0 n_p0 post n42) v1 v2 v3 := h
      refine lv_iload_n hx hb dX3_endOfToken_42 rfl (lv_at hl 3 rfl) ?_
      refine lv_iload_n hx hb dX3_endOfToken_43 rfl (lv_at hl 2 rfl) ?_
      refine lv_icmp_ge (tgt := 62) hx hb dX3_endOfToken_44 (by decide) (fun c_2 => ?_) (fun c_2 => ?_)
      · replace h := h.1 c_2
        exact C62 v1 v3 h _ _ _ (x_sub hP [0] rfl) (hD.sub [0] (by decide) rfl) hS (lv_sub hl [1, 3] rfl)
      · replace h := h.2 c_2
        refine lv_aload_n hx hb dX3_endOfToken_47 rfl (lv_at hl 0 rfl) ?_
        refine lv_iload_n hx hb dX3_endOfToken_48 rfl (lv_at hl 3 rfl) ?_
        refine va_bald (D := (dC, dI)) hx hb hK hP 0 2 rfl rfl h.1 dX3_endOfToken_49 ?_
        replace h := h.2
        refine xSi0 (As := [.int (p0 (v3).toNatClampNeg)]) (rest := []) ⟨hx, hb, hml, hown, hts⟩ (mtX3_isDigit l ad dC dI cy  _  (p0 (v3).toNatClampNeg) h) (va_cwS 1 hts gX3_endOfToken_X3_isDigit rfl rfl rfl qX3_isDigit.2 ⟨Nat.le_of_ble_eq_true rfl, Nat.le_of_ble_eq_true rfl⟩) hE hK hP hD hS hA [] rfl (by decide) rfl hl.1 rfl (Nat.le_of_ble_eq_true rfl) dX3_endOfToken_50 ⟨Nat.le_refl _, Nat.le_refl _⟩ (fun r50 H locs h hP hS => ?_)
        try dsimp only at h
        refine lv_if_eq (tgt := 62) hx hb dX3_endOfToken_53 (by decide) (fun c_3 => ?_) (fun c_3 => ?_)
        · replace h := h.1 c_3
          exact C62 v1 v3 h _ _ _ (x_sub hP [0] rfl) (hD.sub [0] (by decide) rfl) hS (lv_sub hl [1, 3] rfl)
        · replace h := h.2 c_3
          refine lv_iinc (v := (v3 + (1 : Int32))) (lv' := [(3, .int (v3 + (1 : Int32))), (0, .ref a_p0), (1, .int v1), (2, .int v2)]) hx hb dX3_endOfToken_56 hl (k := 3) rfl rfl (by decide) rfl (fun ls hl => ?_)
          refine lv_goto (tgt := 42) hx hb dX3_endOfToken_59 (by decide) ?_
          exact ih42 v1 v2 (v3 + (1 : Int32)) h _ _ _ (x_sub hP [0] rfl) (hD.sub [0] (by decide) rfl) hS (lv_sub hl [1, 2, 3, 0] rfl)
  have L11 : ∀ n : Nat, ∀ (v2 v3 : Int32), wX3_endOfToken_11 p0 n_p0 post n v2 v3 → ∀ (H : Heap) (locs : List Loc) (ls : Array Slot), va_P (dC, dI) vwCl [(a_p0, .inl (cy 2, n_p0, .inl p0))] H → va_D A [(a_p0, .inl (cy 2, n_p0, .inl p0))] → va_S A s.heap H locs → lv_has ls 4 [(0, .ref a_p0), (2, .int v2), (3, .int v3)] → W p l e (headSpec wsX3_endOfToken ({ frames := 1, cells := 0, slots := 0, locals := 20 } : Room)).room s m args below meth c H locs 0 0 Q (F0 m 11 ls []) := by
    intro n
    induction n with
    | zero => intro v2 v3 h; exact False.elim h
    | succ n11 ih11 =>
      intro v2 v3 h H locs ls hP hD hS hl
      replace h : wX3_endOfToken_11_b p0 n_p0 post (wX3_endOfToken_11 p0 n_p0 post n11) v2 v3 := h
      refine lv_iload_n hx hb dX3_endOfToken_11 rfl (lv_at hl 2 rfl) ?_
      refine lv_iload_n hx hb dX3_endOfToken_12 rfl (lv_at hl 1 rfl) ?_
      refine lv_icmp_ge (tgt := 31) hx hb dX3_endOfToken_13 (by decide) (fun c_4 => ?_) (fun c_4 => ?_)
      · replace h := h.1 c_4
        refine lv_iload_n hx hb dX3_endOfToken_31 rfl (lv_at hl 2 rfl) ?_
        rw [← hQ]
        exact W.iret (v := v3) hx hb hr (fun t ht hW => ⟨⟨v3, (), rfl, h, x_end (w1 := [(a_p0, .inl (cy 2, n_p0, .inl p0))]) hP hD hK [0] rfl (by decide) rfl ht hW⟩, hS.F ht⟩) hS.2.2 dX3_endOfToken_32
      · replace h := h.2 c_4
        refine lv_aload_n hx hb dX3_endOfToken_16 rfl (lv_at hl 0 rfl) ?_
        refine lv_iload_n hx hb dX3_endOfToken_17 rfl (lv_at hl 2 rfl) ?_
        refine va_bald (D := (dC, dI)) hx hb hK hP 0 2 rfl rfl h.1 dX3_endOfToken_18 ?_
        replace h := h.2
        refine xSi0 (As := [.int (p0 (v3).toNatClampNeg)]) (rest := []) ⟨hx, hb, hml, hown, hts⟩ (mtX3_isLetter l ad dC dI cy  _  (p0 (v3).toNatClampNeg) h) (va_cwS 1 hts gX3_endOfToken_X3_isLetter rfl rfl rfl qX3_isLetter.2 ⟨Nat.le_of_ble_eq_true rfl, Nat.le_of_ble_eq_true rfl⟩) hE hK hP hD hS hA [] rfl (by decide) rfl hl.1 rfl (Nat.le_of_ble_eq_true rfl) dX3_endOfToken_19 ⟨Nat.le_refl _, Nat.le_refl _⟩ (fun r19 H locs h hP hS => ?_)
        try dsimp only at h
        refine lv_if_eq (tgt := 31) hx hb dX3_endOfToken_22 (by decide) (fun c_5 => ?_) (fun c_5 => ?_)
        · replace h := h.1 c_5
          refine lv_iload_n hx hb dX3_endOfToken_31 rfl (lv_at hl 2 rfl) ?_
          rw [← hQ]
          exact W.iret (v := v3) hx hb hr (fun t ht hW => ⟨⟨v3, (), rfl, h, x_end (w1 := [(a_p0, .inl (cy 2, n_p0, .inl p0))]) hP hD hK [0] rfl (by decide) rfl ht hW⟩, hS.F ht⟩) hS.2.2 dX3_endOfToken_32
        · replace h := h.2 c_5
          refine lv_iinc (v := (v3 + (1 : Int32))) (lv' := [(3, .int (v3 + (1 : Int32))), (0, .ref a_p0), (2, .int v2)]) hx hb dX3_endOfToken_25 hl (k := 2) rfl rfl (by decide) rfl (fun ls hl => ?_)
          refine lv_goto (tgt := 11) hx hb dX3_endOfToken_28 (by decide) ?_
          exact ih11 v2 (v3 + (1 : Int32)) h _ _ _ (x_sub hP [0] rfl) (hD.sub [0] (by decide) rfl) hS (lv_sub hl [1, 2, 0] rfl)
  refine lv_iload_n hx hb dX3_endOfToken_0 rfl (lv_at hl 1 rfl) ?_
  refine lv_istore_n (lv' := [(3, .int v1), (0, .ref a_p0), (1, .int v1), (2, .int v2)]) hx hb dX3_endOfToken_1 rfl hl (by decide) rfl (fun ls hl => ?_)
  refine lv_aload_n hx hb dX3_endOfToken_2 rfl (lv_at hl 1 rfl) ?_
  refine lv_iload_n hx hb dX3_endOfToken_3 rfl (lv_at hl 2 rfl) ?_
  refine va_bald (D := (dC, dI)) hx hb hK hP 0 2 rfl rfl h.1 dX3_endOfToken_4 ?_
  replace h := h.2
  refine xSi0 (As := [.int (p0 (v1).toNatClampNeg)]) (rest := []) ⟨hx, hb, hml, hown, hts⟩ (mtX3_isLetter l ad dC dI cy  _  (p0 (v1).toNatClampNeg) h) (va_cwS 1 hts gX3_endOfToken_X3_isLetter rfl rfl rfl qX3_isLetter.2 ⟨Nat.le_of_ble_eq_true rfl, Nat.le_of_ble_eq_true rfl⟩) hE hK hP hD hS hA [] rfl (by decide) rfl hl.1 rfl (Nat.le_of_ble_eq_true rfl) dX3_endOfToken_5 ⟨Nat.le_refl _, Nat.le_refl _⟩ (fun r5 H locs h hP hS => ?_)
  try dsimp only at h
  refine lv_if_eq (tgt := 33) hx hb dX3_endOfToken_8 (by decide) (fun c_6 => ?_) (fun c_6 => ?_)
  · replace h := h.1 c_6
    refine lv_aload_n hx hb dX3_endOfToken_33 rfl (lv_at hl 1 rfl) ?_
    refine lv_iload_n hx hb dX3_endOfToken_34 rfl (lv_at hl 2 rfl) ?_
    refine va_bald (D := (dC, dI)) hx hb hK hP 0 2 rfl rfl h.1 dX3_endOfToken_35 ?_
    replace h := h.2
    refine xSi0 (As := [.int (p0 (v1).toNatClampNeg)]) (rest := []) ⟨hx, hb, hml, hown, hts⟩ (mtX3_isDigit l ad dC dI cy  _  (p0 (v1).toNatClampNeg) h) (va_cwS 1 hts gX3_endOfToken_X3_isDigit rfl rfl rfl qX3_isDigit.2 ⟨Nat.le_of_ble_eq_true rfl, Nat.le_of_ble_eq_true rfl⟩) hE hK hP hD hS hA [] rfl (by decide) rfl hl.1 rfl (Nat.le_of_ble_eq_true rfl) dX3_endOfToken_36 ⟨Nat.le_refl _, Nat.le_refl _⟩ (fun r36 H locs h hP hS => ?_)
    try dsimp only at h
    refine lv_if_eq (tgt := 76) hx hb dX3_endOfToken_39 (by decide) (fun c_7 => ?_) (fun c_7 => ?_)
    · replace h := h.1 c_7
      refine lv_aload_n hx hb dX3_endOfToken_76 rfl (lv_at hl 1 rfl) ?_
      refine lv_iload_n hx hb dX3_endOfToken_77 rfl (lv_at hl 2 rfl) ?_
      refine va_bald (D := (dC, dI)) hx hb hK hP 0 2 rfl rfl h.1 dX3_endOfToken_78 ?_
      replace h := h.2
      refine lv_bipush (v := 59) hx hb dX3_endOfToken_79 (by decide) ?_
      refine lv_icmp_ne (tgt := 90) hx hb dX3_endOfToken_81 (by decide) (fun c_8 => ?_) (fun c_8 => ?_)
      · replace h := h.2 c_8
        refine lv_iload_n hx hb dX3_endOfToken_90 rfl (lv_at hl 2 rfl) ?_
        rw [← hQ]
        exact W.iret (v := v1) hx hb hr (fun t ht hW => ⟨⟨v1, (), rfl, h, x_end (w1 := [(a_p0, .inl (cy 2, n_p0, .inl p0))]) hP hD hK [0] rfl (by decide) rfl ht hW⟩, hS.F ht⟩) hS.2.2 dX3_endOfToken_91
      · replace h := h.1 c_8
        refine lv_iload_n hx hb dX3_endOfToken_84 rfl (lv_at hl 2 rfl) ?_
        refine lv_iconst (v := 1) hx hb dX3_endOfToken_85 (by decide) ?_
        refine lv_iadd hx hb dX3_endOfToken_86 ?_
        refine lv_goto (tgt := 91) hx hb dX3_endOfToken_87 (by decide) ?_
        rw [← hQ]
        exact W.iret (v := (v1 + (1 : Int32))) hx hb hr (fun t ht hW => ⟨⟨(v1 + (1 : Int32)), (), rfl, h, x_end (w1 := [(a_p0, .inl (cy 2, n_p0, .inl p0))]) hP hD hK [0] rfl (by decide) rfl ht hW⟩, hS.F ht⟩) hS.2.2 dX3_endOfToken_91
    · replace h := h.2 c_7
      obtain ⟨n9, h⟩ := h
      exact L42 n9 v1 v2 v1 h _ _ _ (x_sub hP [0] rfl) (hD.sub [0] (by decide) rfl) hS (lv_sub hl [1, 2, 3, 0] rfl)
  · replace h := h.2 c_6
    obtain ⟨n9, h⟩ := h
    exact L11 n9 v2 v1 h _ _ _ (x_sub hP [0] rfl) (hD.sub [0] (by decide) rfl) hS (lv_sub hl [1, 3, 0] rfl)

/-- KnapsackCore$Reader.note(II)V -/
def wX3_note (post : Int32 → Int32 → Prop) (t_fault t_faultPlace v1 v2 : Int32) : Prop :=
  (t_fault = (0 : Int32) → post v1 v2) ∧ (¬ t_fault = (0 : Int32) → post t_fault t_faultPlace)
theorem kX3_note_0 : Cond.fieldLink RX3 21 "KnapsackCore$Reader" "fault" "I" ∈ wsX3_note := (List.mem_cons_of_mem _ (List.mem_append_left _ (List.mem_of_getElem? (i := 0) rfl)))
theorem kX3_note_1 : Cond.fieldLink RX3 25 "KnapsackCore$Reader" "faultPlace" "I" ∈ wsX3_note := (List.mem_cons_of_mem _ (List.mem_append_left _ (List.mem_of_getElem? (i := 1) rfl)))
theorem iX3_note_X3 : ∀ w ∈ u_ws RX3 TX3 5, w ∈ wsX3_note := fun w h => (List.mem_cons_of_mem _ (List.mem_append_right _ h))
set_option maxHeartbeats 4000000 in
set_option maxRecDepth 100000 in
theorem mtX3_note (l : Launch) (ad : (Nat → Nat) × (Nat → Nat)) (dC : Nat → ClassId) (dI : Nat → Nat → Nat) (cy : Nat → ClassId) (a_t a_t_told : Nat) (sz : Nat) (t_fault t_faultPlace t_due t_weight v1 v2 : Int32) {post : Int32 → Int32 → Prop} (h : wX3_note post t_fault t_faultPlace v1 v2) : xMv l yX3_note wsX3_note ({ frames := 0, cells := 0, slots := 0, locals := 0 } : Room) ad (dC, dI) vwCl (xT cy) [.ref a_t, .int v1, .int v2] [(a_t, .inr (3, [.ref a_t_told, .int t_fault, .int t_faultPlace, .int t_due, .int t_weight]))] sz (fun (u : Int32 × Int32) => post u.1 u.2) (fun (u : Int32 × Int32) w => w = [(a_t, .inr (3, [.ref a_t_told, .int u.1, .int u.2, .int t_due, .int t_weight]))]) 0 0 := by
  unfold xMv
  refine Met.ofW (cc := cX3_note) (maxL := 3) (ret := none) (by decide +kernel) rfl ?_
  intro p e s m args below meth c s₁ B hml hv
  obtain ⟨rfl, hsz, hP, hK, hD0, hE⟩ := hv
  have hx := B.exec
  have hb := B.bytes
  have hr := B.returns
  have hts := atoms_spec (ws := wsX3_note) B.pre
  have hown : s.vm.findClass RX3 = some m.cls := findClass_of_methodNamed B.named
  have hlocks := B.notSynchronized
  subst hsz
  have hD := hD0.self (sz := s.heap.size)
  generalize hAe : va_A [(a_t, .inr (3, [.ref a_t_told, .int t_fault, .int t_faultPlace, .int t_due, .int t_weight]))] s.heap.size = A at hD hE ⊢
  have hA : ∀ q : Nat, s.heap.size ≤ q → A q := fun q h => by rw [← hAe]; exact Or.inr h
  have hS : va_S A s.heap s.heap [] := va_S.rf
  have hl := lv_entry ([.ref a_t, .int v1, .int v2]) (n := 3) (Nat.le_of_ble_eq_true rfl)
  rw [lg_entry_eq]
  generalize (lg_sl ([.ref a_t, .int v1, .int v2]) ++ List.replicate (3 - (lg_sl ([.ref a_t, .int v1, .int v2])).length) Slot.unset).toArray = ls at hl ⊢
  have hl : lv_has ls 3 [(0, .ref a_t), (1, .int v1), (2, .int v2)] := hl
  generalize hQ : MQ below _ _ s _ _ _ = Q
  generalize ([.ref a_t, .int v1, .int v2] : List Value).toArray = args at hts hQ ⊢
  clear B hD0 hAe
  refine lv_aload_n hx hb dX3_note_0 rfl (lv_at hl 0 rfl) ?_
  refine va_get (D := (dC, dI)) (ci := 3) (v := .int t_fault) (C := RX3) (T := TX3) (N := 5) hx hb hts iX3_note_X3 hown hK hP 0 rfl rfl 1 (Nat.le_of_ble_eq_true rfl) (hts _ kX3_note_0) (fun _ h9 => h9) rfl dX3_note_1 ?_
  refine lv_if_ne (tgt := 17) hx hb dX3_note_4 (by decide) (fun c_1 => ?_) (fun c_1 => ?_)
  · replace h := h.2 c_1
    rw [← hQ]
    exact W.vret hx hb hr (fun t ht hW => ⟨⟨(t_fault, t_faultPlace), rfl, (by dsimp only; exact h), x_end (w1 := [(a_t, .inr (3, [.ref a_t_told, .int t_fault, .int t_faultPlace, .int t_due, .int t_weight]))]) hP hD hK [0] rfl (by decide) (by first | exact rfl | (dsimp only; exact rfl)) ht hW⟩, hS.F ht⟩) hS.2.2 dX3_note_17
  · replace h := h.1 c_1
    refine lv_aload_n hx hb dX3_note_7 rfl (lv_at hl 0 rfl) ?_
    refine lv_iload_n hx hb dX3_note_8 rfl (lv_at hl 1 rfl) ?_
    refine va_put (D := (dC, dI)) (ci := 3) (v := .int v1) (C := RX3) (T := TX3) (N := 5) hx hb hts iX3_note_X3 tyX3 tyX3_ok nmX3 hown hK hP hD hS 0 rfl rfl 1 (Nat.le_of_ble_eq_true rfl) (hts _ kX3_note_0) (fun _ h9 => h9) rfl (tyX3_ok 1 (Nat.le_of_ble_eq_true rfl)) rfl rfl (Nat.le_of_ble_eq_true rfl) dX3_note_9 (fun H locs hP hD hS => ?_)
    have hP : va_P (dC, dI) vwCl [(a_t, .inr (3, [.ref a_t_told, .int v1, .int t_faultPlace, .int t_due, .int t_weight]))] H := hP
    have hD : va_D A [(a_t, .inr (3, [.ref a_t_told, .int v1, .int t_faultPlace, .int t_due, .int t_weight]))] := hD
    refine lv_aload_n hx hb dX3_note_12 rfl (lv_at hl 0 rfl) ?_
    refine lv_iload_n hx hb dX3_note_13 rfl (lv_at hl 2 rfl) ?_
    refine va_put (D := (dC, dI)) (ci := 3) (v := .int v2) (C := RX3) (T := TX3) (N := 5) hx hb hts iX3_note_X3 tyX3 tyX3_ok nmX3 hown hK hP hD hS 0 rfl rfl 2 (Nat.le_of_ble_eq_true rfl) (hts _ kX3_note_1) (fun _ h9 => h9) rfl (tyX3_ok 2 (Nat.le_of_ble_eq_true rfl)) rfl rfl (Nat.le_of_ble_eq_true rfl) dX3_note_14 (fun H locs hP hD hS => ?_)
    have hP : va_P (dC, dI) vwCl [(a_t, .inr (3, [.ref a_t_told, .int v1, .int v2, .int t_due, .int t_weight]))] H := hP
    have hD : va_D A [(a_t, .inr (3, [.ref a_t_told, .int v1, .int v2, .int t_due, .int t_weight]))] := hD
    rw [← hQ]
    exact W.vret hx hb hr (fun t ht hW => ⟨⟨(v1, v2), rfl, (by dsimp only; exact h), x_end (w1 := [(a_t, .inr (3, [.ref a_t_told, .int v1, .int v2, .int t_due, .int t_weight]))]) hP hD hK [0] rfl (by decide) (by first | exact rfl | (dsimp only; exact rfl)) ht hW⟩, hS.F ht⟩) hS.2.2 dX3_note_17

theorem qX3_note : yX3_note.cls = RX3 ∧ yX3_note.cls ≠ "java/lang/invoke/MethodHandle" ∧ yX3_note.cls ≠ "java/lang/invoke/VarHandle" ∧ (parseMethodDescriptor yX3_note.desc).map (fun d => d.parameters.length) = some 2 := by decide +kernel
def wX3_noteItemsNumber_14 (post : Int32 → Int32 → Prop) (t_fault t_faultPlace : Int32) : Prop :=
  post t_fault t_faultPlace
def wX3_noteItemsNumber_4 (post : Int32 → Int32 → Prop) (t_fault t_faultPlace : Int32) (v1 v3 : Int64) (v5 k0 : Int32) : Prop :=
  (k0 = (0 : Int32) → wX3_note (fun m11_0 m11_1 => wX3_noteItemsNumber_14 post m11_0 m11_1) t_fault t_faultPlace (2 : Int32) v5) ∧ (¬ k0 = (0 : Int32) → ((v3 + v1) ≤ (2147483647 : Int64) → post t_fault t_faultPlace) ∧ (¬ (v3 + v1) ≤ (2147483647 : Int64) → wX3_note (fun m31_0 m31_1 => post m31_0 m31_1) t_fault t_faultPlace (4 : Int32) v5))
/-- KnapsackCore$Reader.noteItemsNumber(JJI)V -/
def wX3_noteItemsNumber (post : Int32 → Int32 → Prop) (t_fault t_faultPlace : Int32) (v1 v3 : Int64) (v5 : Int32) : Prop :=
  wX6_canBeItemsNumber (fun r1 => wX3_noteItemsNumber_4 post t_fault t_faultPlace v1 v3 v5 r1) v1
theorem kX3_noteItemsNumber_0 : Cond.constantLong RX3 128 (2147483647) ∈ wsX3_noteItemsNumber := (List.mem_cons_of_mem _ (List.mem_append_left _ (List.mem_of_getElem? (i := 0) rfl)))
theorem kX3_noteItemsNumber_1 : Cond.initialized RX6 ∈ wsX3_noteItemsNumber := (List.mem_cons_of_mem _ (List.mem_append_left _ (List.mem_of_getElem? (i := 2) rfl)))
theorem kX3_noteItemsNumber_2 : Cond.static yX6_canBeItemsNumber ∈ wsX3_noteItemsNumber := (List.mem_cons_of_mem _ (List.mem_append_left _ (List.mem_of_getElem? (i := 1) rfl)))
set_option maxHeartbeats 4000000 in
set_option maxRecDepth 100000 in
theorem mtX3_noteItemsNumber (l : Launch) (ad : (Nat → Nat) × (Nat → Nat)) (dC : Nat → ClassId) (dI : Nat → Nat → Nat) (cy : Nat → ClassId) (a_t a_t_told : Nat) (sz : Nat) (t_fault t_faultPlace t_due t_weight : Int32) (v1 v3 : Int64) (v5 : Int32) {post : Int32 → Int32 → Prop} (h : wX3_noteItemsNumber post t_fault t_faultPlace v1 v3 v5) : xMv l yX3_noteItemsNumber wsX3_noteItemsNumber ({ frames := 1, cells := 0, slots := 0, locals := 22 } : Room) ad (dC, dI) vwCl (xT cy) [.ref a_t, .long v1, .long v3, .int v5] [(a_t, .inr (3, [.ref a_t_told, .int t_fault, .int t_faultPlace, .int t_due, .int t_weight]))] sz (fun (u : Int32 × Int32) => post u.1 u.2) (fun (u : Int32 × Int32) w => w = [(a_t, .inr (3, [.ref a_t_told, .int u.1, .int u.2, .int t_due, .int t_weight]))]) 0 0 := by
  unfold xMv
  refine Met.ofW (cc := cX3_noteItemsNumber) (maxL := 6) (ret := none) (by decide +kernel) rfl ?_
  intro p e s m args below meth c s₁ B hml hv
  obtain ⟨rfl, hsz, hP, hK, hD0, hE⟩ := hv
  have hx := B.exec
  have hb := B.bytes
  have hr := B.returns
  have hts := atoms_spec (ws := wsX3_noteItemsNumber) B.pre
  have hown : s.vm.findClass RX3 = some m.cls := findClass_of_methodNamed B.named
  have hlocks := B.notSynchronized
  subst hsz
  have hD := hD0.self (sz := s.heap.size)
  generalize hAe : va_A [(a_t, .inr (3, [.ref a_t_told, .int t_fault, .int t_faultPlace, .int t_due, .int t_weight]))] s.heap.size = A at hD hE ⊢
  have hA : ∀ q : Nat, s.heap.size ≤ q → A q := fun q h => by rw [← hAe]; exact Or.inr h
  have hS : va_S A s.heap s.heap [] := va_S.rf
  have hl := lv_entry ([.ref a_t, .long v1, .long v3, .int v5]) (n := 6) (Nat.le_of_ble_eq_true rfl)
  rw [lg_entry_eq]
  generalize (lg_sl ([.ref a_t, .long v1, .long v3, .int v5]) ++ List.replicate (6 - (lg_sl ([.ref a_t, .long v1, .long v3, .int v5])).length) Slot.unset).toArray = ls at hl ⊢
  have hl : lv_has ls 6 [(0, .ref a_t), (1, .long v1), (3, .long v3), (5, .int v5)] := hl
  generalize hQ : MQ below _ _ s _ _ _ = Q
  generalize ([.ref a_t, .long v1, .long v3, .int v5] : List Value).toArray = args at hts hQ ⊢
  clear B hD0 hAe
  refine lv_lload_n hx hb dX3_noteItemsNumber_0 rfl (lv_at hl 1 rfl) ?_
  refine xNi0 (As := [.long v1]) (rest := []) ⟨hx, hb, hml, hown, hts⟩ (mtX6_canBeItemsNumber l ad dC dI cy  _  v1 h) ⟨va_cnB 1 hts gX3_noteItemsNumber_X6_canBeItemsNumber_n125 rfl rfl rfl (hE.1 _ (List.mem_of_getElem? (i := 7) rfl)) (hts _ kX3_noteItemsNumber_1) qX6_canBeItemsNumber.2 ⟨Nat.le_of_ble_eq_true rfl, Nat.le_of_ble_eq_true rfl⟩, hts _ kX3_noteItemsNumber_2, trivial⟩ hE hK hP hD hS hA [] rfl (by decide) rfl hl.1 rfl (Nat.le_of_ble_eq_true rfl) dX3_noteItemsNumber_1 ⟨Nat.le_refl _, Nat.le_refl _⟩ (fun r1 H locs h hP hS => ?_)
  try dsimp only at h
  refine lv_if_ne (tgt := 17) hx hb dX3_noteItemsNumber_4 (by decide) (fun c_1 => ?_) (fun c_1 => ?_)
  · replace h := h.2 c_1
    refine lv_lload_n hx hb dX3_noteItemsNumber_17 rfl (lv_at hl 2 rfl) ?_
    refine lv_lload_n hx hb dX3_noteItemsNumber_18 rfl (lv_at hl 1 rfl) ?_
    refine lv_ladd hx hb dX3_noteItemsNumber_19 ?_
    refine lv_ldc2 hx hb hown (hts _ kX3_noteItemsNumber_0) dX3_noteItemsNumber_20 ?_
    refine W.lcmp hx hb dX3_noteItemsNumber_23 ?_
    refine lv_if_le (tgt := 34) hx hb dX3_noteItemsNumber_24 (by decide) (fun c_2 => ?_) (fun c_2 => ?_)
    · replace h := h.1 ((lg_cmp_le _ _).mp c_2)
      rw [← hQ]
      exact W.vret hx hb hr (fun t ht hW => ⟨⟨(t_fault, t_faultPlace), rfl, (by dsimp only; exact h), x_end (w1 := [(a_t, .inr (3, [.ref a_t_told, .int t_fault, .int t_faultPlace, .int t_due, .int t_weight]))]) hP hD hK [0] rfl (by decide) (by first | exact rfl | (dsimp only; exact rfl)) ht hW⟩, hS.F ht⟩) hS.2.2 dX3_noteItemsNumber_34
    · replace h := h.2 (fun z9 => c_2 ((lg_cmp_le _ _).mpr z9))
      refine lv_aload_n hx hb dX3_noteItemsNumber_27 rfl (lv_at hl 0 rfl) ?_
      refine lv_iconst (v := 4) hx hb dX3_noteItemsNumber_28 (by decide) ?_
      refine lv_iload hx hb dX3_noteItemsNumber_29 (lv_at hl 3 rfl) ?_
      refine xVv (wr := []) (As := [.int (4 : Int32), .int v5]) (rest := []) ⟨hx, hb, hml, hown, hts⟩ (mtX3_note l ad dC dI cy a_t a_t_told _ t_fault t_faultPlace t_due t_weight (4 : Int32) v5 h) (cwV 2 hts gX3_noteItemsNumber_X3_note rfl rfl rfl qX3_note ⟨Nat.le_of_ble_eq_true rfl, Nat.le_of_ble_eq_true rfl⟩) hE hK hP hD hS hA 3 0 rfl rfl rfl [0] [] rfl rfl (by decide) (by decide) (by decide) rfl hl.1 rfl (Nat.le_of_ble_eq_true rfl) dX3_noteItemsNumber_31 ⟨Nat.le_refl _, Nat.le_refl _⟩ (fun u w1 H locs h hF hP hD hS => ?_)
      obtain ⟨m31_0, m31_1⟩ := u
      try dsimp only at h
      replace hF : w1 = [(a_t, .inr (3, [.ref a_t_told, .int m31_0, .int m31_1, .int t_due, .int t_weight]))] := hF
      subst hF
      have hP : va_P (dC, dI) vwCl [(a_t, .inr (3, [.ref a_t_told, .int m31_0, .int m31_1, .int t_due, .int t_weight]))] H := hP
      have hD : va_D A [(a_t, .inr (3, [.ref a_t_told, .int m31_0, .int m31_1, .int t_due, .int t_weight]))] := hD
      rw [← hQ]
      exact W.vret hx hb hr (fun t ht hW => ⟨⟨(m31_0, m31_1), rfl, (by dsimp only; exact h), x_end (w1 := [(a_t, .inr (3, [.ref a_t_told, .int m31_0, .int m31_1, .int t_due, .int t_weight]))]) hP hD hK [0] rfl (by decide) (by first | exact rfl | (dsimp only; exact rfl)) ht hW⟩, hS.F ht⟩) hS.2.2 dX3_noteItemsNumber_34
  · replace h := h.1 c_1
    refine lv_aload_n hx hb dX3_noteItemsNumber_7 rfl (lv_at hl 0 rfl) ?_
    refine lv_iconst (v := 2) hx hb dX3_noteItemsNumber_8 (by decide) ?_
    refine lv_iload hx hb dX3_noteItemsNumber_9 (lv_at hl 3 rfl) ?_
    refine xVv (wr := []) (As := [.int (2 : Int32), .int v5]) (rest := []) ⟨hx, hb, hml, hown, hts⟩ (mtX3_note l ad dC dI cy a_t a_t_told _ t_fault t_faultPlace t_due t_weight (2 : Int32) v5 h) (cwV 2 hts gX3_noteItemsNumber_X3_note rfl rfl rfl qX3_note ⟨Nat.le_of_ble_eq_true rfl, Nat.le_of_ble_eq_true rfl⟩) hE hK hP hD hS hA 3 0 rfl rfl rfl [0] [] rfl rfl (by decide) (by decide) (by decide) rfl hl.1 rfl (Nat.le_of_ble_eq_true rfl) dX3_noteItemsNumber_11 ⟨Nat.le_refl _, Nat.le_refl _⟩ (fun u w1 H locs h hF hP hD hS => ?_)
    obtain ⟨m11_0, m11_1⟩ := u
    try dsimp only at h
    replace hF : w1 = [(a_t, .inr (3, [.ref a_t_told, .int m11_0, .int m11_1, .int t_due, .int t_weight]))] := hF
    subst hF
    have hP : va_P (dC, dI) vwCl [(a_t, .inr (3, [.ref a_t_told, .int m11_0, .int m11_1, .int t_due, .int t_weight]))] H := hP
    have hD : va_D A [(a_t, .inr (3, [.ref a_t_told, .int m11_0, .int m11_1, .int t_due, .int t_weight]))] := hD
    refine lv_goto (tgt := 34) hx hb dX3_noteItemsNumber_14 (by decide) ?_
    rw [← hQ]
    exact W.vret hx hb hr (fun t ht hW => ⟨⟨(m11_0, m11_1), rfl, (by dsimp only; exact h), x_end (w1 := [(a_t, .inr (3, [.ref a_t_told, .int m11_0, .int m11_1, .int t_due, .int t_weight]))]) hP hD hK [0] rfl (by decide) (by first | exact rfl | (dsimp only; exact rfl)) ht hW⟩, hS.F ht⟩) hS.2.2 dX3_noteItemsNumber_34

theorem qX1_put : yX1_put.cls = RX1 ∧ yX1_put.cls ≠ "java/lang/invoke/MethodHandle" ∧ yX1_put.cls ≠ "java/lang/invoke/VarHandle" ∧ (parseMethodDescriptor yX1_put.desc).map (fun d => d.parameters.length) = some 2 := by decide +kernel
/-- KnapsackCore$Reader.takeItem(I)V -/
def wX3_takeItem (t_fault t_weight : Int32) (post : Int32 → (Nat → Int32) → (Nat → Int32) → Prop) (t_told_items : Int32) (t_told_weights t_told_profits : Nat → Int32) (v1 : Int32) : Prop :=
  (t_fault = (0 : Int32) → wX1_put (fun m16_0 m16_1 m16_2 => post m16_0 m16_1 m16_2) t_told_items t_told_weights t_told_profits t_weight v1) ∧ (¬ t_fault = (0 : Int32) → post t_told_items t_told_weights t_told_profits)
theorem kX3_takeItem_0 : Cond.fieldLink RX3 21 "KnapsackCore$Reader" "fault" "I" ∈ wsX3_takeItem := (List.mem_cons_of_mem _ (List.mem_append_left _ (List.mem_append_left _ (List.mem_of_getElem? (i := 0) rfl))))
theorem kX3_takeItem_1 : Cond.fieldLink RX3 12 "KnapsackCore$Reader" "told" "LKnapsackCore$Load;" ∈ wsX3_takeItem := (List.mem_cons_of_mem _ (List.mem_append_left _ (List.mem_append_left _ (List.mem_of_getElem? (i := 1) rfl))))
theorem kX3_takeItem_2 : Cond.fieldLink RX3 31 "KnapsackCore$Reader" "weight" "I" ∈ wsX3_takeItem := (List.mem_cons_of_mem _ (List.mem_append_left _ (List.mem_append_left _ (List.mem_of_getElem? (i := 2) rfl))))
theorem iX3_takeItem_X3 : ∀ w ∈ u_ws RX3 TX3 5, w ∈ wsX3_takeItem := fun w h => (List.mem_cons_of_mem _ (List.mem_append_left _ (List.mem_append_right _ h)))
set_option maxHeartbeats 4000000 in
set_option maxRecDepth 100000 in
theorem mtX3_takeItem (l : Launch) (ad : (Nat → Nat) × (Nat → Nat)) (dC : Nat → ClassId) (dI : Nat → Nat → Nat) (cy : Nat → ClassId) (a_t a_t_told a_t_told_weights a_t_told_profits : Nat) (sz : Nat) (t_fault t_faultPlace t_due t_weight t_told_items t_told_room t_told_most t_told_steps : Int32) (t_told_weights t_told_profits : Nat → Int32) (v1 : Int32) {post : Int32 → (Nat → Int32) → (Nat → Int32) → Prop} (h : wX3_takeItem t_fault t_weight post t_told_items t_told_weights t_told_profits v1) : xMv l yX3_takeItem wsX3_takeItem ({ frames := 1, cells := 0, slots := 0, locals := 22 } : Room) ad (dC, dI) vwCl (xT cy) [.ref a_t, .int v1] [(a_t, .inr (3, [.ref a_t_told, .int t_fault, .int t_faultPlace, .int t_due, .int t_weight])), (a_t_told, .inr (1, [.ref a_t_told_weights, .ref a_t_told_profits, .int t_told_items, .int t_told_room, .int t_told_most, .int t_told_steps])), (a_t_told_weights, .inl (cy 0, 60, .inl t_told_weights)), (a_t_told_profits, .inl (cy 0, 60, .inl t_told_profits))] sz (fun (u : Int32 × (Nat → Int32) × (Nat → Int32)) => post u.1 u.2.1 u.2.2) (fun (u : Int32 × (Nat → Int32) × (Nat → Int32)) w => w = [(a_t, .inr (3, [.ref a_t_told, .int t_fault, .int t_faultPlace, .int t_due, .int t_weight])), (a_t_told, .inr (1, [.ref a_t_told_weights, .ref a_t_told_profits, .int u.1, .int t_told_room, .int t_told_most, .int t_told_steps])), (a_t_told_weights, .inl (cy 0, 60, .inl u.2.1)), (a_t_told_profits, .inl (cy 0, 60, .inl u.2.2))]) 0 0 := by
  unfold xMv
  refine Met.ofW (cc := cX3_takeItem) (maxL := 2) (ret := none) (by decide +kernel) rfl ?_
  intro p e s m args below meth c s₁ B hml hv
  obtain ⟨rfl, hsz, hP, hK, hD0, hE⟩ := hv
  have hx := B.exec
  have hb := B.bytes
  have hr := B.returns
  have hts := atoms_spec (ws := wsX3_takeItem) B.pre
  have hown : s.vm.findClass RX3 = some m.cls := findClass_of_methodNamed B.named
  have hlocks := B.notSynchronized
  subst hsz
  have hD := hD0.self (sz := s.heap.size)
  generalize hAe : va_A [(a_t, .inr (3, [.ref a_t_told, .int t_fault, .int t_faultPlace, .int t_due, .int t_weight])), (a_t_told, .inr (1, [.ref a_t_told_weights, .ref a_t_told_profits, .int t_told_items, .int t_told_room, .int t_told_most, .int t_told_steps])), (a_t_told_weights, .inl (cy 0, 60, .inl t_told_weights)), (a_t_told_profits, .inl (cy 0, 60, .inl t_told_profits))] s.heap.size = A at hD hE ⊢
  have hA : ∀ q : Nat, s.heap.size ≤ q → A q := fun q h => by rw [← hAe]; exact Or.inr h
  have hS : va_S A s.heap s.heap [] := va_S.rf
  have hl := lv_entry ([.ref a_t, .int v1]) (n := 2) (Nat.le_of_ble_eq_true rfl)
  rw [lg_entry_eq]
  generalize (lg_sl ([.ref a_t, .int v1]) ++ List.replicate (2 - (lg_sl ([.ref a_t, .int v1])).length) Slot.unset).toArray = ls at hl ⊢
  have hl : lv_has ls 2 [(0, .ref a_t), (1, .int v1)] := hl
  generalize hQ : MQ below _ _ s _ _ _ = Q
  generalize ([.ref a_t, .int v1] : List Value).toArray = args at hts hQ ⊢
  clear B hD0 hAe
  refine lv_aload_n hx hb dX3_takeItem_0 rfl (lv_at hl 0 rfl) ?_
  refine va_get (D := (dC, dI)) (ci := 3) (v := .int t_fault) (C := RX3) (T := TX3) (N := 5) hx hb hts iX3_takeItem_X3 hown hK hP 0 rfl rfl 1 (Nat.le_of_ble_eq_true rfl) (hts _ kX3_takeItem_0) (fun _ h9 => h9) rfl dX3_takeItem_1 ?_
  refine lv_if_ne (tgt := 19) hx hb dX3_takeItem_4 (by decide) (fun c_1 => ?_) (fun c_1 => ?_)
  · replace h := h.2 c_1
    rw [← hQ]
    exact W.vret hx hb hr (fun t ht hW => ⟨⟨(t_told_items, t_told_weights, t_told_profits), rfl, (by dsimp only; exact h), x_end (w1 := [(a_t, .inr (3, [.ref a_t_told, .int t_fault, .int t_faultPlace, .int t_due, .int t_weight])), (a_t_told, .inr (1, [.ref a_t_told_weights, .ref a_t_told_profits, .int t_told_items, .int t_told_room, .int t_told_most, .int t_told_steps])), (a_t_told_weights, .inl (cy 0, 60, .inl t_told_weights)), (a_t_told_profits, .inl (cy 0, 60, .inl t_told_profits))]) hP hD hK [0, 1, 2, 3] rfl (by decide) (by first | exact rfl | (dsimp only; exact rfl)) ht hW⟩, hS.F ht⟩) hS.2.2 dX3_takeItem_19
  · replace h := h.1 c_1
    refine lv_aload_n hx hb dX3_takeItem_7 rfl (lv_at hl 0 rfl) ?_
    refine va_get (D := (dC, dI)) (ci := 3) (v := .ref a_t_told) (C := RX3) (T := TX3) (N := 5) hx hb hts iX3_takeItem_X3 hown hK hP 0 rfl rfl 0 (Nat.le_of_ble_eq_true rfl) (hts _ kX3_takeItem_1) (fun _ h9 => h9) rfl dX3_takeItem_8 ?_
    refine lv_aload_n hx hb dX3_takeItem_11 rfl (lv_at hl 0 rfl) ?_
    refine va_get (D := (dC, dI)) (ci := 3) (v := .int t_weight) (C := RX3) (T := TX3) (N := 5) hx hb hts iX3_takeItem_X3 hown hK hP 0 rfl rfl 4 (Nat.le_of_ble_eq_true rfl) (hts _ kX3_takeItem_2) (fun _ h9 => h9) rfl dX3_takeItem_12 ?_
    refine lv_iload_n hx hb dX3_takeItem_15 rfl (lv_at hl 1 rfl) ?_
    refine xVv (wr := [(a_t, .inr (3, [.ref a_t_told, .int t_fault, .int t_faultPlace, .int t_due, .int t_weight]))]) (As := [.int t_weight, .int v1]) (rest := []) ⟨hx, hb, hml, hown, hts⟩ (mtX1_put l ad dC dI cy a_t_told a_t_told_weights a_t_told_profits _ t_told_items t_told_room t_told_most t_told_steps t_told_weights t_told_profits t_weight v1 h) (cwV 2 hts gX3_takeItem_X1_put rfl rfl rfl qX1_put ⟨Nat.le_of_ble_eq_true rfl, Nat.le_of_ble_eq_true rfl⟩) hE hK hP hD hS hA 1 0 rfl rfl rfl [1, 2, 3] [0] rfl rfl (by decide) (by decide) (by decide) rfl hl.1 rfl (Nat.le_of_ble_eq_true rfl) dX3_takeItem_16 ⟨Nat.le_refl _, Nat.le_refl _⟩ (fun u w1 H locs h hF hP hD hS => ?_)
    obtain ⟨m16_0, m16_1, m16_2⟩ := u
    try dsimp only at h
    replace hF : w1 = [(a_t_told, .inr (1, [.ref a_t_told_weights, .ref a_t_told_profits, .int m16_0, .int t_told_room, .int t_told_most, .int t_told_steps])), (a_t_told_weights, .inl (cy 0, 60, .inl m16_1)), (a_t_told_profits, .inl (cy 0, 60, .inl m16_2))] := hF
    subst hF
    have hP : va_P (dC, dI) vwCl [(a_t, .inr (3, [.ref a_t_told, .int t_fault, .int t_faultPlace, .int t_due, .int t_weight])), (a_t_told, .inr (1, [.ref a_t_told_weights, .ref a_t_told_profits, .int m16_0, .int t_told_room, .int t_told_most, .int t_told_steps])), (a_t_told_weights, .inl (cy 0, 60, .inl m16_1)), (a_t_told_profits, .inl (cy 0, 60, .inl m16_2))] H := hP
    have hD : va_D A [(a_t, .inr (3, [.ref a_t_told, .int t_fault, .int t_faultPlace, .int t_due, .int t_weight])), (a_t_told, .inr (1, [.ref a_t_told_weights, .ref a_t_told_profits, .int m16_0, .int t_told_room, .int t_told_most, .int t_told_steps])), (a_t_told_weights, .inl (cy 0, 60, .inl m16_1)), (a_t_told_profits, .inl (cy 0, 60, .inl m16_2))] := hD
    rw [← hQ]
    exact W.vret hx hb hr (fun t ht hW => ⟨⟨(m16_0, m16_1, m16_2), rfl, (by dsimp only; exact h), x_end (w1 := [(a_t, .inr (3, [.ref a_t_told, .int t_fault, .int t_faultPlace, .int t_due, .int t_weight])), (a_t_told, .inr (1, [.ref a_t_told_weights, .ref a_t_told_profits, .int m16_0, .int t_told_room, .int t_told_most, .int t_told_steps])), (a_t_told_weights, .inl (cy 0, 60, .inl m16_1)), (a_t_told_profits, .inl (cy 0, 60, .inl m16_2))]) hP hD hK [0, 1, 2, 3] rfl (by decide) (by first | exact rfl | (dsimp only; exact rfl)) ht hW⟩, hS.F ht⟩) hS.2.2 dX3_takeItem_19

/-- KnapsackCore.canBeMost(J)Z -/
def wX6_canBeMost (post : Int32 → Prop) (v0 : Int64) : Prop :=
  (v0 < (2 : Int64) → post (0 : Int32)) ∧ (¬ v0 < (2 : Int64) → ((1000 : Int64) < v0 → post (0 : Int32)) ∧ (¬ (1000 : Int64) < v0 → post (1 : Int32)))
theorem kX6_canBeMost_0 : Cond.constantLong RX6 321 (2) ∈ wsX6_canBeMost := (List.mem_cons_of_mem _ (List.mem_of_getElem? (i := 0) rfl))
theorem kX6_canBeMost_1 : Cond.constantLong RX6 323 (1000) ∈ wsX6_canBeMost := (List.mem_cons_of_mem _ (List.mem_of_getElem? (i := 1) rfl))
set_option maxHeartbeats 4000000 in
set_option maxRecDepth 100000 in
theorem mtX6_canBeMost (l : Launch) (ad : (Nat → Nat) × (Nat → Nat)) (dC : Nat → ClassId) (dI : Nat → Nat → Nat) (cy : Nat → ClassId) (sz : Nat) (v0 : Int64) {post : Int32 → Prop} (h : wX6_canBeMost post v0) : xMi l yX6_canBeMost wsX6_canBeMost ({ frames := 0, cells := 0, slots := 0, locals := 0 } : Room) ad (dC, dI) vwCl (xT cy) [.long v0] [] sz (fun (r : Int32) (_ : Unit) => post r) (fun (_ : Unit) w => w = []) 0 0 := by
  unfold xMi
  refine Met.ofW (cc := cX6_canBeMost) (maxL := 2) (ret := (some .boolean)) (by decide +kernel) rfl ?_
  intro p e s m args below meth c s₁ B hml hv
  obtain ⟨rfl, hsz, hP, hK, hD0, hE⟩ := hv
  have hx := B.exec
  have hb := B.bytes
  have hr := B.returns
  have hts := atoms_spec (ws := wsX6_canBeMost) B.pre
  have hown : s.vm.findClass RX6 = some m.cls := findClass_of_methodNamed B.named
  have hlocks := B.notSynchronized
  subst hsz
  have hD := hD0.self (sz := s.heap.size)
  generalize hAe : va_A [] s.heap.size = A at hD hE ⊢
  have hA : ∀ q : Nat, s.heap.size ≤ q → A q := fun q h => by rw [← hAe]; exact Or.inr h
  have hS : va_S A s.heap s.heap [] := va_S.rf
  have hl := lv_entry ([.long v0]) (n := 2) (Nat.le_of_ble_eq_true rfl)
  rw [lg_entry_eq]
  generalize (lg_sl ([.long v0]) ++ List.replicate (2 - (lg_sl ([.long v0])).length) Slot.unset).toArray = ls at hl ⊢
  have hl : lv_has ls 2 [(0, .long v0)] := hl
  generalize hQ : MQ below _ _ s _ _ _ = Q
  generalize ([.long v0] : List Value).toArray = args at hts hQ ⊢
  clear B hD0 hAe
  refine lv_lload_n hx hb dX6_canBeMost_0 rfl (lv_at hl 0 rfl) ?_
  refine lv_ldc2 hx hb hown (hts _ kX6_canBeMost_0) dX6_canBeMost_1 ?_
  refine W.lcmp hx hb dX6_canBeMost_4 ?_
  refine lv_if_lt (tgt := 20) hx hb dX6_canBeMost_5 (by decide) (fun c_1 => ?_) (fun c_1 => ?_)
  · replace h := h.1 ((lg_cmp_lt _ _).mp c_1)
    refine lv_iconst (v := 0) hx hb dX6_canBeMost_20 (by decide) ?_
    rw [← hQ]
    exact W.zret (v := (0 : Int32)) hx hb hr rfl (fun t ht hW => ⟨⟨(0 : Int32), (), rfl, h, x_end (w1 := []) hP hD hK [] rfl (by decide) rfl ht hW⟩, hS.F ht⟩) hS.2.2 dX6_canBeMost_21
  · replace h := h.2 (fun z9 => c_1 ((lg_cmp_lt _ _).mpr z9))
    refine lv_lload_n hx hb dX6_canBeMost_8 rfl (lv_at hl 0 rfl) ?_
    refine lv_ldc2 hx hb hown (hts _ kX6_canBeMost_1) dX6_canBeMost_9 ?_
    refine W.lcmp hx hb dX6_canBeMost_12 ?_
    refine lv_if_gt (tgt := 20) hx hb dX6_canBeMost_13 (by decide) (fun c_2 => ?_) (fun c_2 => ?_)
    · replace h := h.1 ((lg_cmp_gt _ _).mp c_2)
      refine lv_iconst (v := 0) hx hb dX6_canBeMost_20 (by decide) ?_
      rw [← hQ]
      exact W.zret (v := (0 : Int32)) hx hb hr rfl (fun t ht hW => ⟨⟨(0 : Int32), (), rfl, h, x_end (w1 := []) hP hD hK [] rfl (by decide) rfl ht hW⟩, hS.F ht⟩) hS.2.2 dX6_canBeMost_21
    · replace h := h.2 (fun z9 => c_2 ((lg_cmp_gt _ _).mpr z9))
      refine lv_iconst (v := 1) hx hb dX6_canBeMost_16 (by decide) ?_
      refine lv_goto (tgt := 21) hx hb dX6_canBeMost_17 (by decide) ?_
      rw [← hQ]
      exact W.zret (v := (1 : Int32)) hx hb hr rfl (fun t ht hW => ⟨⟨(1 : Int32), (), rfl, h, x_end (w1 := []) hP hD hK [] rfl (by decide) rfl ht hW⟩, hS.F ht⟩) hS.2.2 dX6_canBeMost_21

theorem qX6_canBeMost : yX6_canBeMost.cls = RX6 ∧ yX6_canBeMost.cls ≠ "java/lang/invoke/MethodHandle" ∧ yX6_canBeMost.cls ≠ "java/lang/invoke/VarHandle" ∧ (parseMethodDescriptor yX6_canBeMost.desc).map (fun d => d.parameters.length) = some 1 := by decide +kernel
def wX3_takeMost_4 (post : Int32 → Int32 → Int32 → Prop) (t_fault t_faultPlace t_told_most : Int32) (v1 : Int64) (v3 k0 : Int32) : Prop :=
  (k0 = (0 : Int32) → wX3_note (fun m22_0 m22_1 => post m22_0 m22_1 t_told_most) t_fault t_faultPlace (2 : Int32) v3) ∧ (¬ k0 = (0 : Int32) → post t_fault t_faultPlace ((v1).toInt32))
/-- KnapsackCore$Reader.takeMost(JI)V -/
def wX3_takeMost (post : Int32 → Int32 → Int32 → Prop) (t_fault t_faultPlace t_told_most : Int32) (v1 : Int64) (v3 : Int32) : Prop :=
  wX6_canBeMost (fun r1 => wX3_takeMost_4 post t_fault t_faultPlace t_told_most v1 v3 r1) v1
theorem kX3_takeMost_0 : Cond.fieldLink RX3 12 "KnapsackCore$Reader" "told" "LKnapsackCore$Load;" ∈ wsX3_takeMost := (List.mem_cons_of_mem _ (List.mem_append_left _ (List.mem_append_left _ (List.mem_of_getElem? (i := 0) rfl))))
theorem kX3_takeMost_1 : Cond.fieldLink RX3 123 "KnapsackCore$Load" "most" "I" ∈ wsX3_takeMost := (List.mem_cons_of_mem _ (List.mem_append_left _ (List.mem_append_left _ (List.mem_of_getElem? (i := 1) rfl))))
theorem kX3_takeMost_2 : Cond.initialized RX6 ∈ wsX3_takeMost := (List.mem_cons_of_mem _ (List.mem_append_left _ (List.mem_append_left _ (List.mem_of_getElem? (i := 3) rfl))))
theorem kX3_takeMost_3 : Cond.static yX6_canBeMost ∈ wsX3_takeMost := (List.mem_cons_of_mem _ (List.mem_append_left _ (List.mem_append_left _ (List.mem_of_getElem? (i := 2) rfl))))
theorem iX3_takeMost_X3 : ∀ w ∈ u_ws RX3 TX3 5, w ∈ wsX3_takeMost := fun w h => (List.mem_cons_of_mem _ (List.mem_append_left _ (List.mem_append_right _ h)))
theorem iX3_takeMost_X1 : ∀ w ∈ u_ws RX1 TX1 6, w ∈ wsX3_takeMost := fun w h => (List.mem_cons_of_mem _ (List.mem_append_right _ h))
set_option maxHeartbeats 4000000 in
set_option maxRecDepth 100000 in
theorem mtX3_takeMost (l : Launch) (ad : (Nat → Nat) × (Nat → Nat)) (dC : Nat → ClassId) (dI : Nat → Nat → Nat) (cy : Nat → ClassId) (a_t a_t_told a_t_told_weights a_t_told_profits : Nat) (sz : Nat) (t_fault t_faultPlace t_due t_weight t_told_items t_told_room t_told_most t_told_steps : Int32) (v1 : Int64) (v3 : Int32) {post : Int32 → Int32 → Int32 → Prop} (h : wX3_takeMost post t_fault t_faultPlace t_told_most v1 v3) : xMv l yX3_takeMost wsX3_takeMost ({ frames := 1, cells := 0, slots := 0, locals := 22 } : Room) ad (dC, dI) vwCl (xT cy) [.ref a_t, .long v1, .int v3] [(a_t, .inr (3, [.ref a_t_told, .int t_fault, .int t_faultPlace, .int t_due, .int t_weight])), (a_t_told, .inr (1, [.ref a_t_told_weights, .ref a_t_told_profits, .int t_told_items, .int t_told_room, .int t_told_most, .int t_told_steps]))] sz (fun (u : Int32 × Int32 × Int32) => post u.1 u.2.1 u.2.2) (fun (u : Int32 × Int32 × Int32) w => w = [(a_t, .inr (3, [.ref a_t_told, .int u.1, .int u.2.1, .int t_due, .int t_weight])), (a_t_told, .inr (1, [.ref a_t_told_weights, .ref a_t_told_profits, .int t_told_items, .int t_told_room, .int u.2.2, .int t_told_steps]))]) 0 0 := by
  unfold xMv
  refine Met.ofW (cc := cX3_takeMost) (maxL := 4) (ret := none) (by decide +kernel) rfl ?_
  intro p e s m args below meth c s₁ B hml hv
  obtain ⟨rfl, hsz, hP, hK, hD0, hE⟩ := hv
  have hx := B.exec
  have hb := B.bytes
  have hr := B.returns
  have hts := atoms_spec (ws := wsX3_takeMost) B.pre
  have hown : s.vm.findClass RX3 = some m.cls := findClass_of_methodNamed B.named
  have hlocks := B.notSynchronized
  subst hsz
  have hD := hD0.self (sz := s.heap.size)
  generalize hAe : va_A [(a_t, .inr (3, [.ref a_t_told, .int t_fault, .int t_faultPlace, .int t_due, .int t_weight])), (a_t_told, .inr (1, [.ref a_t_told_weights, .ref a_t_told_profits, .int t_told_items, .int t_told_room, .int t_told_most, .int t_told_steps]))] s.heap.size = A at hD hE ⊢
  have hA : ∀ q : Nat, s.heap.size ≤ q → A q := fun q h => by rw [← hAe]; exact Or.inr h
  have hS : va_S A s.heap s.heap [] := va_S.rf
  have hl := lv_entry ([.ref a_t, .long v1, .int v3]) (n := 4) (Nat.le_of_ble_eq_true rfl)
  rw [lg_entry_eq]
  generalize (lg_sl ([.ref a_t, .long v1, .int v3]) ++ List.replicate (4 - (lg_sl ([.ref a_t, .long v1, .int v3])).length) Slot.unset).toArray = ls at hl ⊢
  have hl : lv_has ls 4 [(0, .ref a_t), (1, .long v1), (3, .int v3)] := hl
  generalize hQ : MQ below _ _ s _ _ _ = Q
  generalize ([.ref a_t, .long v1, .int v3] : List Value).toArray = args at hts hQ ⊢
  clear B hD0 hAe
  refine lv_lload_n hx hb dX3_takeMost_0 rfl (lv_at hl 1 rfl) ?_
  refine xNi0 (As := [.long v1]) (rest := []) ⟨hx, hb, hml, hown, hts⟩ (mtX6_canBeMost l ad dC dI cy  _  v1 h) ⟨va_cnB 1 hts gX3_takeMost_X6_canBeMost_n120 rfl rfl rfl (hE.1 _ (List.mem_of_getElem? (i := 6) rfl)) (hts _ kX3_takeMost_2) qX6_canBeMost.2 ⟨Nat.le_of_ble_eq_true rfl, Nat.le_of_ble_eq_true rfl⟩, hts _ kX3_takeMost_3, trivial⟩ hE hK hP hD hS hA [] rfl (by decide) rfl hl.1 rfl (Nat.le_of_ble_eq_true rfl) dX3_takeMost_1 ⟨Nat.le_refl _, Nat.le_refl _⟩ (fun r1 H locs h hP hS => ?_)
  try dsimp only at h
  refine lv_if_eq (tgt := 19) hx hb dX3_takeMost_4 (by decide) (fun c_1 => ?_) (fun c_1 => ?_)
  · replace h := h.1 c_1
    refine lv_aload_n hx hb dX3_takeMost_19 rfl (lv_at hl 0 rfl) ?_
    refine lv_iconst (v := 2) hx hb dX3_takeMost_20 (by decide) ?_
    refine lv_iload_n hx hb dX3_takeMost_21 rfl (lv_at hl 2 rfl) ?_
    refine xVv (wr := [(a_t_told, .inr (1, [.ref a_t_told_weights, .ref a_t_told_profits, .int t_told_items, .int t_told_room, .int t_told_most, .int t_told_steps]))]) (As := [.int (2 : Int32), .int v3]) (rest := []) ⟨hx, hb, hml, hown, hts⟩ (mtX3_note l ad dC dI cy a_t a_t_told _ t_fault t_faultPlace t_due t_weight (2 : Int32) v3 h) (cwV 2 hts gX3_takeMost_X3_note rfl rfl rfl qX3_note ⟨Nat.le_of_ble_eq_true rfl, Nat.le_of_ble_eq_true rfl⟩) hE hK hP hD hS hA 3 0 rfl rfl rfl [0] [1] rfl rfl (by decide) (by decide) (by decide) rfl hl.1 rfl (Nat.le_of_ble_eq_true rfl) dX3_takeMost_22 ⟨Nat.le_refl _, Nat.le_refl _⟩ (fun u w1 H locs h hF hP hD hS => ?_)
    obtain ⟨m22_0, m22_1⟩ := u
    try dsimp only at h
    replace hF : w1 = [(a_t, .inr (3, [.ref a_t_told, .int m22_0, .int m22_1, .int t_due, .int t_weight]))] := hF
    subst hF
    have hP : va_P (dC, dI) vwCl [(a_t_told, .inr (1, [.ref a_t_told_weights, .ref a_t_told_profits, .int t_told_items, .int t_told_room, .int t_told_most, .int t_told_steps])), (a_t, .inr (3, [.ref a_t_told, .int m22_0, .int m22_1, .int t_due, .int t_weight]))] H := hP
    have hD : va_D A [(a_t_told, .inr (1, [.ref a_t_told_weights, .ref a_t_told_profits, .int t_told_items, .int t_told_room, .int t_told_most, .int t_told_steps])), (a_t, .inr (3, [.ref a_t_told, .int m22_0, .int m22_1, .int t_due, .int t_weight]))] := hD
    rw [← hQ]
    exact W.vret hx hb hr (fun t ht hW => ⟨⟨(m22_0, m22_1, t_told_most), rfl, (by dsimp only; exact h), x_end (w1 := [(a_t, .inr (3, [.ref a_t_told, .int m22_0, .int m22_1, .int t_due, .int t_weight])), (a_t_told, .inr (1, [.ref a_t_told_weights, .ref a_t_told_profits, .int t_told_items, .int t_told_room, .int t_told_most, .int t_told_steps]))]) hP hD hK [1, 0] rfl (by decide) (by first | exact rfl | (dsimp only; exact rfl)) ht hW⟩, hS.F ht⟩) hS.2.2 dX3_takeMost_25
  · replace h := h.2 c_1
    refine lv_aload_n hx hb dX3_takeMost_7 rfl (lv_at hl 0 rfl) ?_
    refine va_get (D := (dC, dI)) (ci := 3) (v := .ref a_t_told) (C := RX3) (T := TX3) (N := 5) hx hb hts iX3_takeMost_X3 hown hK hP 0 rfl rfl 0 (Nat.le_of_ble_eq_true rfl) (hts _ kX3_takeMost_0) (fun _ h9 => h9) rfl dX3_takeMost_8 ?_
    refine lv_lload_n hx hb dX3_takeMost_11 rfl (lv_at hl 1 rfl) ?_
    refine lv_l2i hx hb dX3_takeMost_12 rfl ?_
    refine va_put (D := (dC, dI)) (ci := 1) (v := .int ((v1).toInt32)) (C := RX1) (T := TX1) (N := 6) hx hb hts iX3_takeMost_X1 tyX1 tyX1_ok nmX1 hown hK hP hD hS 1 rfl rfl 4 (Nat.le_of_ble_eq_true rfl) (hts _ kX3_takeMost_1) (fun _ h9 => h9) rfl (tyX1_ok 4 (Nat.le_of_ble_eq_true rfl)) rfl rfl (Nat.le_of_ble_eq_true rfl) dX3_takeMost_13 (fun H locs hP hD hS => ?_)
    have hP : va_P (dC, dI) vwCl [(a_t, .inr (3, [.ref a_t_told, .int t_fault, .int t_faultPlace, .int t_due, .int t_weight])), (a_t_told, .inr (1, [.ref a_t_told_weights, .ref a_t_told_profits, .int t_told_items, .int t_told_room, .int ((v1).toInt32), .int t_told_steps]))] H := hP
    have hD : va_D A [(a_t, .inr (3, [.ref a_t_told, .int t_fault, .int t_faultPlace, .int t_due, .int t_weight])), (a_t_told, .inr (1, [.ref a_t_told_weights, .ref a_t_told_profits, .int t_told_items, .int t_told_room, .int ((v1).toInt32), .int t_told_steps]))] := hD
    refine lv_goto (tgt := 25) hx hb dX3_takeMost_16 (by decide) ?_
    rw [← hQ]
    exact W.vret hx hb hr (fun t ht hW => ⟨⟨(t_fault, t_faultPlace, (v1).toInt32), rfl, (by dsimp only; exact h), x_end (w1 := [(a_t, .inr (3, [.ref a_t_told, .int t_fault, .int t_faultPlace, .int t_due, .int t_weight])), (a_t_told, .inr (1, [.ref a_t_told_weights, .ref a_t_told_profits, .int t_told_items, .int t_told_room, .int ((v1).toInt32), .int t_told_steps]))]) hP hD hK [0, 1] rfl (by decide) (by first | exact rfl | (dsimp only; exact rfl)) ht hW⟩, hS.F ht⟩) hS.2.2 dX3_takeMost_25

/-- KnapsackCore.canBeRoom(J)Z -/
def wX6_canBeRoom (post : Int32 → Prop) (v0 : Int64) : Prop :=
  (v0 < (0 : Int64) → post (0 : Int32)) ∧ (¬ v0 < (0 : Int64) → ((2000000000 : Int64) < v0 → post (0 : Int32)) ∧ (¬ (2000000000 : Int64) < v0 → post (1 : Int32)))
theorem kX6_canBeRoom_0 : Cond.constantLong RX6 295 (2000000000) ∈ wsX6_canBeRoom := (List.mem_cons_of_mem _ (List.mem_of_getElem? (i := 0) rfl))
set_option maxHeartbeats 4000000 in
set_option maxRecDepth 100000 in
theorem mtX6_canBeRoom (l : Launch) (ad : (Nat → Nat) × (Nat → Nat)) (dC : Nat → ClassId) (dI : Nat → Nat → Nat) (cy : Nat → ClassId) (sz : Nat) (v0 : Int64) {post : Int32 → Prop} (h : wX6_canBeRoom post v0) : xMi l yX6_canBeRoom wsX6_canBeRoom ({ frames := 0, cells := 0, slots := 0, locals := 0 } : Room) ad (dC, dI) vwCl (xT cy) [.long v0] [] sz (fun (r : Int32) (_ : Unit) => post r) (fun (_ : Unit) w => w = []) 0 0 := by
  unfold xMi
  refine Met.ofW (cc := cX6_canBeRoom) (maxL := 2) (ret := (some .boolean)) (by decide +kernel) rfl ?_
  intro p e s m args below meth c s₁ B hml hv
  obtain ⟨rfl, hsz, hP, hK, hD0, hE⟩ := hv
  have hx := B.exec
  have hb := B.bytes
  have hr := B.returns
  have hts := atoms_spec (ws := wsX6_canBeRoom) B.pre
  have hown : s.vm.findClass RX6 = some m.cls := findClass_of_methodNamed B.named
  have hlocks := B.notSynchronized
  subst hsz
  have hD := hD0.self (sz := s.heap.size)
  generalize hAe : va_A [] s.heap.size = A at hD hE ⊢
  have hA : ∀ q : Nat, s.heap.size ≤ q → A q := fun q h => by rw [← hAe]; exact Or.inr h
  have hS : va_S A s.heap s.heap [] := va_S.rf
  have hl := lv_entry ([.long v0]) (n := 2) (Nat.le_of_ble_eq_true rfl)
  rw [lg_entry_eq]
  generalize (lg_sl ([.long v0]) ++ List.replicate (2 - (lg_sl ([.long v0])).length) Slot.unset).toArray = ls at hl ⊢
  have hl : lv_has ls 2 [(0, .long v0)] := hl
  generalize hQ : MQ below _ _ s _ _ _ = Q
  generalize ([.long v0] : List Value).toArray = args at hts hQ ⊢
  clear B hD0 hAe
  refine lv_lload_n hx hb dX6_canBeRoom_0 rfl (lv_at hl 0 rfl) ?_
  refine lv_lconst (v := 0) hx hb dX6_canBeRoom_1 (by decide) ?_
  refine W.lcmp hx hb dX6_canBeRoom_2 ?_
  refine lv_if_lt (tgt := 18) hx hb dX6_canBeRoom_3 (by decide) (fun c_1 => ?_) (fun c_1 => ?_)
  · replace h := h.1 ((lg_cmp_lt _ _).mp c_1)
    refine lv_iconst (v := 0) hx hb dX6_canBeRoom_18 (by decide) ?_
    rw [← hQ]
    exact W.zret (v := (0 : Int32)) hx hb hr rfl (fun t ht hW => ⟨⟨(0 : Int32), (), rfl, h, x_end (w1 := []) hP hD hK [] rfl (by decide) rfl ht hW⟩, hS.F ht⟩) hS.2.2 dX6_canBeRoom_19
  · replace h := h.2 (fun z9 => c_1 ((lg_cmp_lt _ _).mpr z9))
    refine lv_lload_n hx hb dX6_canBeRoom_6 rfl (lv_at hl 0 rfl) ?_
    refine lv_ldc2 hx hb hown (hts _ kX6_canBeRoom_0) dX6_canBeRoom_7 ?_
    refine W.lcmp hx hb dX6_canBeRoom_10 ?_
    refine lv_if_gt (tgt := 18) hx hb dX6_canBeRoom_11 (by decide) (fun c_2 => ?_) (fun c_2 => ?_)
    · replace h := h.1 ((lg_cmp_gt _ _).mp c_2)
      refine lv_iconst (v := 0) hx hb dX6_canBeRoom_18 (by decide) ?_
      rw [← hQ]
      exact W.zret (v := (0 : Int32)) hx hb hr rfl (fun t ht hW => ⟨⟨(0 : Int32), (), rfl, h, x_end (w1 := []) hP hD hK [] rfl (by decide) rfl ht hW⟩, hS.F ht⟩) hS.2.2 dX6_canBeRoom_19
    · replace h := h.2 (fun z9 => c_2 ((lg_cmp_gt _ _).mpr z9))
      refine lv_iconst (v := 1) hx hb dX6_canBeRoom_14 (by decide) ?_
      refine lv_goto (tgt := 19) hx hb dX6_canBeRoom_15 (by decide) ?_
      rw [← hQ]
      exact W.zret (v := (1 : Int32)) hx hb hr rfl (fun t ht hW => ⟨⟨(1 : Int32), (), rfl, h, x_end (w1 := []) hP hD hK [] rfl (by decide) rfl ht hW⟩, hS.F ht⟩) hS.2.2 dX6_canBeRoom_19

theorem qX6_canBeRoom : yX6_canBeRoom.cls = RX6 ∧ yX6_canBeRoom.cls ≠ "java/lang/invoke/MethodHandle" ∧ yX6_canBeRoom.cls ≠ "java/lang/invoke/VarHandle" ∧ (parseMethodDescriptor yX6_canBeRoom.desc).map (fun d => d.parameters.length) = some 1 := by decide +kernel
def wX3_takeRoom_4 (post : Int32 → Int32 → Int32 → Prop) (t_fault t_faultPlace t_told_room : Int32) (v1 : Int64) (v3 k0 : Int32) : Prop :=
  (k0 = (0 : Int32) → wX3_note (fun m22_0 m22_1 => post m22_0 m22_1 t_told_room) t_fault t_faultPlace (2 : Int32) v3) ∧ (¬ k0 = (0 : Int32) → post t_fault t_faultPlace ((v1).toInt32))
/-- KnapsackCore$Reader.takeRoom(JI)V -/
def wX3_takeRoom (post : Int32 → Int32 → Int32 → Prop) (t_fault t_faultPlace t_told_room : Int32) (v1 : Int64) (v3 : Int32) : Prop :=
  wX6_canBeRoom (fun r1 => wX3_takeRoom_4 post t_fault t_faultPlace t_told_room v1 v3 r1) v1
theorem kX3_takeRoom_0 : Cond.fieldLink RX3 12 "KnapsackCore$Reader" "told" "LKnapsackCore$Load;" ∈ wsX3_takeRoom := (List.mem_cons_of_mem _ (List.mem_append_left _ (List.mem_append_left _ (List.mem_of_getElem? (i := 0) rfl))))
theorem kX3_takeRoom_1 : Cond.fieldLink RX3 118 "KnapsackCore$Load" "room" "I" ∈ wsX3_takeRoom := (List.mem_cons_of_mem _ (List.mem_append_left _ (List.mem_append_left _ (List.mem_of_getElem? (i := 1) rfl))))
theorem kX3_takeRoom_2 : Cond.initialized RX6 ∈ wsX3_takeRoom := (List.mem_cons_of_mem _ (List.mem_append_left _ (List.mem_append_left _ (List.mem_of_getElem? (i := 3) rfl))))
theorem kX3_takeRoom_3 : Cond.static yX6_canBeRoom ∈ wsX3_takeRoom := (List.mem_cons_of_mem _ (List.mem_append_left _ (List.mem_append_left _ (List.mem_of_getElem? (i := 2) rfl))))
theorem iX3_takeRoom_X3 : ∀ w ∈ u_ws RX3 TX3 5, w ∈ wsX3_takeRoom := fun w h => (List.mem_cons_of_mem _ (List.mem_append_left _ (List.mem_append_right _ h)))
theorem iX3_takeRoom_X1 : ∀ w ∈ u_ws RX1 TX1 6, w ∈ wsX3_takeRoom := fun w h => (List.mem_cons_of_mem _ (List.mem_append_right _ h))
set_option maxHeartbeats 4000000 in
set_option maxRecDepth 100000 in
theorem mtX3_takeRoom (l : Launch) (ad : (Nat → Nat) × (Nat → Nat)) (dC : Nat → ClassId) (dI : Nat → Nat → Nat) (cy : Nat → ClassId) (a_t a_t_told a_t_told_weights a_t_told_profits : Nat) (sz : Nat) (t_fault t_faultPlace t_due t_weight t_told_items t_told_room t_told_most t_told_steps : Int32) (v1 : Int64) (v3 : Int32) {post : Int32 → Int32 → Int32 → Prop} (h : wX3_takeRoom post t_fault t_faultPlace t_told_room v1 v3) : xMv l yX3_takeRoom wsX3_takeRoom ({ frames := 1, cells := 0, slots := 0, locals := 22 } : Room) ad (dC, dI) vwCl (xT cy) [.ref a_t, .long v1, .int v3] [(a_t, .inr (3, [.ref a_t_told, .int t_fault, .int t_faultPlace, .int t_due, .int t_weight])), (a_t_told, .inr (1, [.ref a_t_told_weights, .ref a_t_told_profits, .int t_told_items, .int t_told_room, .int t_told_most, .int t_told_steps]))] sz (fun (u : Int32 × Int32 × Int32) => post u.1 u.2.1 u.2.2) (fun (u : Int32 × Int32 × Int32) w => w = [(a_t, .inr (3, [.ref a_t_told, .int u.1, .int u.2.1, .int t_due, .int t_weight])), (a_t_told, .inr (1, [.ref a_t_told_weights, .ref a_t_told_profits, .int t_told_items, .int u.2.2, .int t_told_most, .int t_told_steps]))]) 0 0 := by
  unfold xMv
  refine Met.ofW (cc := cX3_takeRoom) (maxL := 4) (ret := none) (by decide +kernel) rfl ?_
  intro p e s m args below meth c s₁ B hml hv
  obtain ⟨rfl, hsz, hP, hK, hD0, hE⟩ := hv
  have hx := B.exec
  have hb := B.bytes
  have hr := B.returns
  have hts := atoms_spec (ws := wsX3_takeRoom) B.pre
  have hown : s.vm.findClass RX3 = some m.cls := findClass_of_methodNamed B.named
  have hlocks := B.notSynchronized
  subst hsz
  have hD := hD0.self (sz := s.heap.size)
  generalize hAe : va_A [(a_t, .inr (3, [.ref a_t_told, .int t_fault, .int t_faultPlace, .int t_due, .int t_weight])), (a_t_told, .inr (1, [.ref a_t_told_weights, .ref a_t_told_profits, .int t_told_items, .int t_told_room, .int t_told_most, .int t_told_steps]))] s.heap.size = A at hD hE ⊢
  have hA : ∀ q : Nat, s.heap.size ≤ q → A q := fun q h => by rw [← hAe]; exact Or.inr h
  have hS : va_S A s.heap s.heap [] := va_S.rf
  have hl := lv_entry ([.ref a_t, .long v1, .int v3]) (n := 4) (Nat.le_of_ble_eq_true rfl)
  rw [lg_entry_eq]
  generalize (lg_sl ([.ref a_t, .long v1, .int v3]) ++ List.replicate (4 - (lg_sl ([.ref a_t, .long v1, .int v3])).length) Slot.unset).toArray = ls at hl ⊢
  have hl : lv_has ls 4 [(0, .ref a_t), (1, .long v1), (3, .int v3)] := hl
  generalize hQ : MQ below _ _ s _ _ _ = Q
  generalize ([.ref a_t, .long v1, .int v3] : List Value).toArray = args at hts hQ ⊢
  clear B hD0 hAe
  refine lv_lload_n hx hb dX3_takeRoom_0 rfl (lv_at hl 1 rfl) ?_
  refine xNi0 (As := [.long v1]) (rest := []) ⟨hx, hb, hml, hown, hts⟩ (mtX6_canBeRoom l ad dC dI cy  _  v1 h) ⟨va_cnB 1 hts gX3_takeRoom_X6_canBeRoom_n114 rfl rfl rfl (hE.1 _ (List.mem_of_getElem? (i := 5) rfl)) (hts _ kX3_takeRoom_2) qX6_canBeRoom.2 ⟨Nat.le_of_ble_eq_true rfl, Nat.le_of_ble_eq_true rfl⟩, hts _ kX3_takeRoom_3, trivial⟩ hE hK hP hD hS hA [] rfl (by decide) rfl hl.1 rfl (Nat.le_of_ble_eq_true rfl) dX3_takeRoom_1 ⟨Nat.le_refl _, Nat.le_refl _⟩ (fun r1 H locs h hP hS => ?_)
  try dsimp only at h
  refine lv_if_eq (tgt := 19) hx hb dX3_takeRoom_4 (by decide) (fun c_1 => ?_) (fun c_1 => ?_)
  · replace h := h.1 c_1
    refine lv_aload_n hx hb dX3_takeRoom_19 rfl (lv_at hl 0 rfl) ?_
    refine lv_iconst (v := 2) hx hb dX3_takeRoom_20 (by decide) ?_
    refine lv_iload_n hx hb dX3_takeRoom_21 rfl (lv_at hl 2 rfl) ?_
    refine xVv (wr := [(a_t_told, .inr (1, [.ref a_t_told_weights, .ref a_t_told_profits, .int t_told_items, .int t_told_room, .int t_told_most, .int t_told_steps]))]) (As := [.int (2 : Int32), .int v3]) (rest := []) ⟨hx, hb, hml, hown, hts⟩ (mtX3_note l ad dC dI cy a_t a_t_told _ t_fault t_faultPlace t_due t_weight (2 : Int32) v3 h) (cwV 2 hts gX3_takeRoom_X3_note rfl rfl rfl qX3_note ⟨Nat.le_of_ble_eq_true rfl, Nat.le_of_ble_eq_true rfl⟩) hE hK hP hD hS hA 3 0 rfl rfl rfl [0] [1] rfl rfl (by decide) (by decide) (by decide) rfl hl.1 rfl (Nat.le_of_ble_eq_true rfl) dX3_takeRoom_22 ⟨Nat.le_refl _, Nat.le_refl _⟩ (fun u w1 H locs h hF hP hD hS => ?_)
    obtain ⟨m22_0, m22_1⟩ := u
    try dsimp only at h
    replace hF : w1 = [(a_t, .inr (3, [.ref a_t_told, .int m22_0, .int m22_1, .int t_due, .int t_weight]))] := hF
    subst hF
    have hP : va_P (dC, dI) vwCl [(a_t_told, .inr (1, [.ref a_t_told_weights, .ref a_t_told_profits, .int t_told_items, .int t_told_room, .int t_told_most, .int t_told_steps])), (a_t, .inr (3, [.ref a_t_told, .int m22_0, .int m22_1, .int t_due, .int t_weight]))] H := hP
    have hD : va_D A [(a_t_told, .inr (1, [.ref a_t_told_weights, .ref a_t_told_profits, .int t_told_items, .int t_told_room, .int t_told_most, .int t_told_steps])), (a_t, .inr (3, [.ref a_t_told, .int m22_0, .int m22_1, .int t_due, .int t_weight]))] := hD
    rw [← hQ]
    exact W.vret hx hb hr (fun t ht hW => ⟨⟨(m22_0, m22_1, t_told_room), rfl, (by dsimp only; exact h), x_end (w1 := [(a_t, .inr (3, [.ref a_t_told, .int m22_0, .int m22_1, .int t_due, .int t_weight])), (a_t_told, .inr (1, [.ref a_t_told_weights, .ref a_t_told_profits, .int t_told_items, .int t_told_room, .int t_told_most, .int t_told_steps]))]) hP hD hK [1, 0] rfl (by decide) (by first | exact rfl | (dsimp only; exact rfl)) ht hW⟩, hS.F ht⟩) hS.2.2 dX3_takeRoom_25
  · replace h := h.2 c_1
    refine lv_aload_n hx hb dX3_takeRoom_7 rfl (lv_at hl 0 rfl) ?_
    refine va_get (D := (dC, dI)) (ci := 3) (v := .ref a_t_told) (C := RX3) (T := TX3) (N := 5) hx hb hts iX3_takeRoom_X3 hown hK hP 0 rfl rfl 0 (Nat.le_of_ble_eq_true rfl) (hts _ kX3_takeRoom_0) (fun _ h9 => h9) rfl dX3_takeRoom_8 ?_
    refine lv_lload_n hx hb dX3_takeRoom_11 rfl (lv_at hl 1 rfl) ?_
    refine lv_l2i hx hb dX3_takeRoom_12 rfl ?_
    refine va_put (D := (dC, dI)) (ci := 1) (v := .int ((v1).toInt32)) (C := RX1) (T := TX1) (N := 6) hx hb hts iX3_takeRoom_X1 tyX1 tyX1_ok nmX1 hown hK hP hD hS 1 rfl rfl 3 (Nat.le_of_ble_eq_true rfl) (hts _ kX3_takeRoom_1) (fun _ h9 => h9) rfl (tyX1_ok 3 (Nat.le_of_ble_eq_true rfl)) rfl rfl (Nat.le_of_ble_eq_true rfl) dX3_takeRoom_13 (fun H locs hP hD hS => ?_)
    have hP : va_P (dC, dI) vwCl [(a_t, .inr (3, [.ref a_t_told, .int t_fault, .int t_faultPlace, .int t_due, .int t_weight])), (a_t_told, .inr (1, [.ref a_t_told_weights, .ref a_t_told_profits, .int t_told_items, .int ((v1).toInt32), .int t_told_most, .int t_told_steps]))] H := hP
    have hD : va_D A [(a_t, .inr (3, [.ref a_t_told, .int t_fault, .int t_faultPlace, .int t_due, .int t_weight])), (a_t_told, .inr (1, [.ref a_t_told_weights, .ref a_t_told_profits, .int t_told_items, .int ((v1).toInt32), .int t_told_most, .int t_told_steps]))] := hD
    refine lv_goto (tgt := 25) hx hb dX3_takeRoom_16 (by decide) ?_
    rw [← hQ]
    exact W.vret hx hb hr (fun t ht hW => ⟨⟨(t_fault, t_faultPlace, (v1).toInt32), rfl, (by dsimp only; exact h), x_end (w1 := [(a_t, .inr (3, [.ref a_t_told, .int t_fault, .int t_faultPlace, .int t_due, .int t_weight])), (a_t_told, .inr (1, [.ref a_t_told_weights, .ref a_t_told_profits, .int t_told_items, .int ((v1).toInt32), .int t_told_most, .int t_told_steps]))]) hP hD hK [0, 1] rfl (by decide) (by first | exact rfl | (dsimp only; exact rfl)) ht hW⟩, hS.F ht⟩) hS.2.2 dX3_takeRoom_25

theorem qX3_noteItemsNumber : yX3_noteItemsNumber.cls = RX3 ∧ yX3_noteItemsNumber.cls ≠ "java/lang/invoke/MethodHandle" ∧ yX3_noteItemsNumber.cls ≠ "java/lang/invoke/VarHandle" ∧ (parseMethodDescriptor yX3_noteItemsNumber.desc).map (fun d => d.parameters.length) = some 3 := by decide +kernel
theorem qX3_takeItem : yX3_takeItem.cls = RX3 ∧ yX3_takeItem.cls ≠ "java/lang/invoke/MethodHandle" ∧ yX3_takeItem.cls ≠ "java/lang/invoke/VarHandle" ∧ (parseMethodDescriptor yX3_takeItem.desc).map (fun d => d.parameters.length) = some 1 := by decide +kernel
theorem qX3_takeMost : yX3_takeMost.cls = RX3 ∧ yX3_takeMost.cls ≠ "java/lang/invoke/MethodHandle" ∧ yX3_takeMost.cls ≠ "java/lang/invoke/VarHandle" ∧ (parseMethodDescriptor yX3_takeMost.desc).map (fun d => d.parameters.length) = some 2 := by decide +kernel
theorem qX3_takeRoom : yX3_takeRoom.cls = RX3 ∧ yX3_takeRoom.cls ≠ "java/lang/invoke/MethodHandle" ∧ yX3_takeRoom.cls ≠ "java/lang/invoke/VarHandle" ∧ (parseMethodDescriptor yX3_takeRoom.desc).map (fun d => d.parameters.length) = some 2 := by decide +kernel
def wX3_takesNumber_107 (post : Int32 → Int32 → Int32 → Int32 → Int32 → Int32 → Int32 → Int32 → (Nat → Int32) → (Nat → Int32) → Prop) (t_fault t_faultPlace t_due t_weight t_told_items t_told_room t_told_most : Int32) (t_told_profits t_told_weights : Nat → Int32) : Prop :=
  post (1 : Int32) t_fault t_faultPlace (5 : Int32) t_weight t_told_items t_told_room t_told_most t_told_profits t_told_weights
def wX3_takesNumber_101 (post : Int32 → Int32 → Int32 → Int32 → Int32 → Int32 → Int32 → Int32 → (Nat → Int32) → (Nat → Int32) → Prop) (t_fault t_faultPlace t_due t_weight t_told_items t_told_room t_told_most : Int32) (t_told_profits t_told_weights : Nat → Int32) (v1 : Int64) : Prop :=
  wX3_takeItem t_fault t_weight (fun m104_0 m104_1 m104_2 => wX3_takesNumber_107 post t_fault t_faultPlace t_due t_weight m104_0 t_told_room t_told_most m104_2 m104_1) t_told_items t_told_weights t_told_profits ((v1).toInt32)
def wX3_takesNumber_97 (post : Int32 → Int32 → Int32 → Int32 → Int32 → Int32 → Int32 → Int32 → (Nat → Int32) → (Nat → Int32) → Prop) (t_fault t_faultPlace t_due t_weight t_told_items t_told_room t_told_most : Int32) (t_told_profits t_told_weights : Nat → Int32) (v1 : Int64) (v3 : Int32) (k1 k2 : Int64) : Prop :=
  wX3_noteItemsNumber (fun m98_0 m98_1 => wX3_takesNumber_101 post m98_0 m98_1 t_due t_weight t_told_items t_told_room t_told_most t_told_profits t_told_weights v1) t_fault t_faultPlace k1 k2 v3
def wX3_takesNumber_75 (post : Int32 → Int32 → Int32 → Int32 → Int32 → Int32 → Int32 → Int32 → (Nat → Int32) → (Nat → Int32) → Prop) (t_fault t_faultPlace t_due t_weight t_told_items t_told_room t_told_most : Int32) (t_told_profits t_told_weights : Nat → Int32) (v1 : Int64) : Prop :=
  post (1 : Int32) t_fault t_faultPlace (4 : Int32) ((v1).toInt32) t_told_items t_told_room t_told_most t_told_profits t_told_weights
def wX3_takesNumber_71 (post : Int32 → Int32 → Int32 → Int32 → Int32 → Int32 → Int32 → Int32 → (Nat → Int32) → (Nat → Int32) → Prop) (t_fault t_faultPlace t_due t_weight t_told_items t_told_room t_told_most : Int32) (t_told_profits t_told_weights : Nat → Int32) (v1 : Int64) (v3 : Int32) (k1 k2 : Int64) : Prop :=
  wX3_noteItemsNumber (fun m72_0 m72_1 => wX3_takesNumber_75 post m72_0 m72_1 t_due t_weight t_told_items t_told_room t_told_most t_told_profits t_told_weights v1) t_fault t_faultPlace k1 k2 v3
def wX3_takesNumber_55 (post : Int32 → Int32 → Int32 → Int32 → Int32 → Int32 → Int32 → Int32 → (Nat → Int32) → (Nat → Int32) → Prop) (t_fault t_faultPlace t_due t_weight t_told_items t_told_room t_told_most : Int32) (t_told_profits t_told_weights : Nat → Int32) : Prop :=
  post (1 : Int32) t_fault t_faultPlace (5 : Int32) t_weight t_told_items t_told_room t_told_most t_told_profits t_told_weights
def wX3_takesNumber_42 (post : Int32 → Int32 → Int32 → Int32 → Int32 → Int32 → Int32 → Int32 → (Nat → Int32) → (Nat → Int32) → Prop) (t_fault t_faultPlace t_due t_weight t_told_items t_told_room t_told_most : Int32) (t_told_profits t_told_weights : Nat → Int32) : Prop :=
  post (1 : Int32) t_fault t_faultPlace (5 : Int32) t_weight t_told_items t_told_room t_told_most t_told_profits t_told_weights
/-- KnapsackCore$Reader.takesNumber(JI)Z -/
def wX3_takesNumber (post : Int32 → Int32 → Int32 → Int32 → Int32 → Int32 → Int32 → Int32 → (Nat → Int32) → (Nat → Int32) → Prop) (t_fault t_faultPlace t_due t_weight t_told_items t_told_room t_told_most : Int32) (t_told_profits t_told_weights : Nat → Int32) (v1 : Int64) (v3 : Int32) : Prop :=
  (t_due = (1 : Int32) → wX3_takeRoom (fun m39_0 m39_1 m39_2 => wX3_takesNumber_42 post m39_0 m39_1 t_due t_weight t_told_items m39_2 t_told_most t_told_profits t_told_weights) t_fault t_faultPlace t_told_room v1 v3) ∧ (¬ t_due = (1 : Int32) → (t_due = (2 : Int32) → wX3_takeMost (fun m52_0 m52_1 m52_2 => wX3_takesNumber_55 post m52_0 m52_1 t_due t_weight t_told_items t_told_room m52_2 t_told_profits t_told_weights) t_fault t_faultPlace t_told_most v1 v3) ∧ (¬ t_due = (2 : Int32) → (t_due = (3 : Int32) → wX1_allWeights t_told_items t_told_weights (fun r68 => wX3_takesNumber_71 post t_fault t_faultPlace t_due t_weight t_told_items t_told_room t_told_most t_told_profits t_told_weights v1 v3 v1 r68)) ∧ (¬ t_due = (3 : Int32) → (t_due = (4 : Int32) → wX1_allProfits t_told_items t_told_profits (fun r94 => wX3_takesNumber_97 post t_fault t_faultPlace t_due t_weight t_told_items t_told_room t_told_most t_told_profits t_told_weights v1 v3 v1 r94)) ∧ (¬ t_due = (4 : Int32) → post (0 : Int32) t_fault t_faultPlace t_due t_weight t_told_items t_told_room t_told_most t_told_profits t_told_weights))))
theorem kX3_takesNumber_0 : Cond.fieldLink RX3 28 "KnapsackCore$Reader" "due" "I" ∈ wsX3_takesNumber := (List.mem_cons_of_mem _ (List.mem_append_left _ (List.mem_append_left _ (List.mem_append_left _ (List.mem_of_getElem? (i := 0) rfl)))))
theorem kX3_takesNumber_1 : Cond.fieldLink RX3 31 "KnapsackCore$Reader" "weight" "I" ∈ wsX3_takesNumber := (List.mem_cons_of_mem _ (List.mem_append_left _ (List.mem_append_left _ (List.mem_append_left _ (List.mem_of_getElem? (i := 2) rfl)))))
theorem kX3_takesNumber_2 : Cond.fieldLink RX3 12 "KnapsackCore$Reader" "told" "LKnapsackCore$Load;" ∈ wsX3_takesNumber := (List.mem_cons_of_mem _ (List.mem_append_left _ (List.mem_append_left _ (List.mem_append_left _ (List.mem_of_getElem? (i := 1) rfl)))))
theorem iX3_takesNumber_X3 : ∀ w ∈ u_ws RX3 TX3 5, w ∈ wsX3_takesNumber := fun w h => (List.mem_cons_of_mem _ (List.mem_append_left _ (List.mem_append_right _ h)))
set_option maxHeartbeats 4000000 in
set_option maxRecDepth 100000 in
theorem mtX3_takesNumber (l : Launch) (ad : (Nat → Nat) × (Nat → Nat)) (dC : Nat → ClassId) (dI : Nat → Nat → Nat) (cy : Nat → ClassId) (a_t a_t_told a_t_told_weights a_t_told_profits : Nat) (sz : Nat) (t_fault t_faultPlace t_due t_weight t_told_items t_told_room t_told_most t_told_steps : Int32) (t_told_profits t_told_weights : Nat → Int32) (v1 : Int64) (v3 : Int32) {post : Int32 → Int32 → Int32 → Int32 → Int32 → Int32 → Int32 → Int32 → (Nat → Int32) → (Nat → Int32) → Prop} (h : wX3_takesNumber post t_fault t_faultPlace t_due t_weight t_told_items t_told_room t_told_most t_told_profits t_told_weights v1 v3) : xMi l yX3_takesNumber wsX3_takesNumber ({ frames := 2, cells := 0, slots := 0, locals := 47 } : Room) ad (dC, dI) vwCl (xT cy) [.ref a_t, .long v1, .int v3] [(a_t, .inr (3, [.ref a_t_told, .int t_fault, .int t_faultPlace, .int t_due, .int t_weight])), (a_t_told, .inr (1, [.ref a_t_told_weights, .ref a_t_told_profits, .int t_told_items, .int t_told_room, .int t_told_most, .int t_told_steps])), (a_t_told_profits, .inl (cy 0, 60, .inl t_told_profits)), (a_t_told_weights, .inl (cy 0, 60, .inl t_told_weights))] sz (fun (r : Int32) (u : Int32 × Int32 × Int32 × Int32 × Int32 × Int32 × Int32 × (Nat → Int32) × (Nat → Int32)) => post r u.1 u.2.1 u.2.2.1 u.2.2.2.1 u.2.2.2.2.1 u.2.2.2.2.2.1 u.2.2.2.2.2.2.1 u.2.2.2.2.2.2.2.1 u.2.2.2.2.2.2.2.2) (fun (u : Int32 × Int32 × Int32 × Int32 × Int32 × Int32 × Int32 × (Nat → Int32) × (Nat → Int32)) w => w = [(a_t, .inr (3, [.ref a_t_told, .int u.1, .int u.2.1, .int u.2.2.1, .int u.2.2.2.1])), (a_t_told, .inr (1, [.ref a_t_told_weights, .ref a_t_told_profits, .int u.2.2.2.2.1, .int u.2.2.2.2.2.1, .int u.2.2.2.2.2.2.1, .int t_told_steps])), (a_t_told_profits, .inl (cy 0, 60, .inl u.2.2.2.2.2.2.2.1)), (a_t_told_weights, .inl (cy 0, 60, .inl u.2.2.2.2.2.2.2.2))]) 0 0 := by
  unfold xMi
  refine Met.ofW (cc := cX3_takesNumber) (maxL := 4) (ret := (some .boolean)) (by decide +kernel) rfl ?_
  intro p e s m args below meth c s₁ B hml hv
  obtain ⟨rfl, hsz, hP, hK, hD0, hE⟩ := hv
  have hx := B.exec
  have hb := B.bytes
  have hr := B.returns
  have hts := atoms_spec (ws := wsX3_takesNumber) B.pre
  have hown : s.vm.findClass RX3 = some m.cls := findClass_of_methodNamed B.named
  have hlocks := B.notSynchronized
  subst hsz
  have hD := hD0.self (sz := s.heap.size)
  generalize hAe : va_A [(a_t, .inr (3, [.ref a_t_told, .int t_fault, .int t_faultPlace, .int t_due, .int t_weight])), (a_t_told, .inr (1, [.ref a_t_told_weights, .ref a_t_told_profits, .int t_told_items, .int t_told_room, .int t_told_most, .int t_told_steps])), (a_t_told_profits, .inl (cy 0, 60, .inl t_told_profits)), (a_t_told_weights, .inl (cy 0, 60, .inl t_told_weights))] s.heap.size = A at hD hE ⊢
  have hA : ∀ q : Nat, s.heap.size ≤ q → A q := fun q h => by rw [← hAe]; exact Or.inr h
  have hS : va_S A s.heap s.heap [] := va_S.rf
  have hl := lv_entry ([.ref a_t, .long v1, .int v3]) (n := 4) (Nat.le_of_ble_eq_true rfl)
  rw [lg_entry_eq]
  generalize (lg_sl ([.ref a_t, .long v1, .int v3]) ++ List.replicate (4 - (lg_sl ([.ref a_t, .long v1, .int v3])).length) Slot.unset).toArray = ls at hl ⊢
  have hl : lv_has ls 4 [(0, .ref a_t), (1, .long v1), (3, .int v3)] := hl
  generalize hQ : MQ below _ _ s _ _ _ = Q
  generalize ([.ref a_t, .long v1, .int v3] : List Value).toArray = args at hts hQ ⊢
  clear B hD0 hAe
  refine lv_aload_n hx hb dX3_takesNumber_0 rfl (lv_at hl 0 rfl) ?_
  refine va_get (D := (dC, dI)) (ci := 3) (v := .int t_due) (C := RX3) (T := TX3) (N := 5) hx hb hts iX3_takesNumber_X3 hown hK hP 0 rfl rfl 3 (Nat.le_of_ble_eq_true rfl) (hts _ kX3_takesNumber_0) (fun _ h9 => h9) rfl dX3_takesNumber_1 ?_
  by_cases c_1 : t_due = (1 : Int32)
  · replace h := h.1 c_1
    refine lv_tableIn (off := 32) (tgt := 36) hx hb dX3_takesNumber_4 (by rw [c_1]; decide) (by rw [c_1]; decide) (by rw [c_1]; rfl) (by decide) ?_
    refine lv_aload_n hx hb dX3_takesNumber_36 rfl (lv_at hl 0 rfl) ?_
    refine lv_lload_n hx hb dX3_takesNumber_37 rfl (lv_at hl 1 rfl) ?_
    refine lv_iload_n hx hb dX3_takesNumber_38 rfl (lv_at hl 2 rfl) ?_
    refine xVv (wr := [(a_t_told_profits, .inl (cy 0, 60, .inl t_told_profits)), (a_t_told_weights, .inl (cy 0, 60, .inl t_told_weights))]) (As := [.long v1, .int v3]) (rest := []) ⟨hx, hb, hml, hown, hts⟩ (mtX3_takeRoom l ad dC dI cy a_t a_t_told a_t_told_weights a_t_told_profits _ t_fault t_faultPlace t_due t_weight t_told_items t_told_room t_told_most t_told_steps v1 v3 h) (cwV 2 hts gX3_takesNumber_X3_takeRoom rfl rfl rfl qX3_takeRoom ⟨Nat.le_of_ble_eq_true rfl, Nat.le_of_ble_eq_true rfl⟩) hE hK hP hD hS hA 3 0 rfl rfl rfl [0, 1] [2, 3] rfl rfl (by decide) (by decide) (by decide) rfl hl.1 rfl (Nat.le_of_ble_eq_true rfl) dX3_takesNumber_39 ⟨Nat.le_refl _, Nat.le_refl _⟩ (fun u w1 H locs h hF hP hD hS => ?_)
    obtain ⟨m39_0, m39_1, m39_2⟩ := u
    try dsimp only at h
    replace hF : w1 = [(a_t, .inr (3, [.ref a_t_told, .int m39_0, .int m39_1, .int t_due, .int t_weight])), (a_t_told, .inr (1, [.ref a_t_told_weights, .ref a_t_told_profits, .int t_told_items, .int m39_2, .int t_told_most, .int t_told_steps]))] := hF
    subst hF
    have hP : va_P (dC, dI) vwCl [(a_t_told_profits, .inl (cy 0, 60, .inl t_told_profits)), (a_t_told_weights, .inl (cy 0, 60, .inl t_told_weights)), (a_t, .inr (3, [.ref a_t_told, .int m39_0, .int m39_1, .int t_due, .int t_weight])), (a_t_told, .inr (1, [.ref a_t_told_weights, .ref a_t_told_profits, .int t_told_items, .int m39_2, .int t_told_most, .int t_told_steps]))] H := hP
    have hD : va_D A [(a_t_told_profits, .inl (cy 0, 60, .inl t_told_profits)), (a_t_told_weights, .inl (cy 0, 60, .inl t_told_weights)), (a_t, .inr (3, [.ref a_t_told, .int m39_0, .int m39_1, .int t_due, .int t_weight])), (a_t_told, .inr (1, [.ref a_t_told_weights, .ref a_t_told_profits, .int t_told_items, .int m39_2, .int t_told_most, .int t_told_steps]))] := hD
    refine lv_aload_n hx hb dX3_takesNumber_42 rfl (lv_at hl 0 rfl) ?_
    refine lv_iconst (v := 5) hx hb dX3_takesNumber_43 (by decide) ?_
    refine va_put (D := (dC, dI)) (ci := 3) (v := .int (5 : Int32)) (C := RX3) (T := TX3) (N := 5) hx hb hts iX3_takesNumber_X3 tyX3 tyX3_ok nmX3 hown hK hP hD hS 2 rfl rfl 3 (Nat.le_of_ble_eq_true rfl) (hts _ kX3_takesNumber_0) (fun _ h9 => h9) rfl (tyX3_ok 3 (Nat.le_of_ble_eq_true rfl)) rfl rfl (Nat.le_of_ble_eq_true rfl) dX3_takesNumber_44 (fun H locs hP hD hS => ?_)
    have hP : va_P (dC, dI) vwCl [(a_t_told_profits, .inl (cy 0, 60, .inl t_told_profits)), (a_t_told_weights, .inl (cy 0, 60, .inl t_told_weights)), (a_t, .inr (3, [.ref a_t_told, .int m39_0, .int m39_1, .int (5 : Int32), .int t_weight])), (a_t_told, .inr (1, [.ref a_t_told_weights, .ref a_t_told_profits, .int t_told_items, .int m39_2, .int t_told_most, .int t_told_steps]))] H := hP
    have hD : va_D A [(a_t_told_profits, .inl (cy 0, 60, .inl t_told_profits)), (a_t_told_weights, .inl (cy 0, 60, .inl t_told_weights)), (a_t, .inr (3, [.ref a_t_told, .int m39_0, .int m39_1, .int (5 : Int32), .int t_weight])), (a_t_told, .inr (1, [.ref a_t_told_weights, .ref a_t_told_profits, .int t_told_items, .int m39_2, .int t_told_most, .int t_told_steps]))] := hD
    refine lv_iconst (v := 1) hx hb dX3_takesNumber_47 (by decide) ?_
    rw [← hQ]
    exact W.zret (v := (1 : Int32)) hx hb hr rfl (fun t ht hW => ⟨⟨(1 : Int32), (m39_0, m39_1, (5 : Int32), t_weight, t_told_items, m39_2, t_told_most, t_told_profits, t_told_weights), rfl, (by dsimp only; exact h), x_end (w1 := [(a_t, .inr (3, [.ref a_t_told, .int m39_0, .int m39_1, .int (5 : Int32), .int t_weight])), (a_t_told, .inr (1, [.ref a_t_told_weights, .ref a_t_told_profits, .int t_told_items, .int m39_2, .int t_told_most, .int t_told_steps])), (a_t_told_profits, .inl (cy 0, 60, .inl t_told_profits)), (a_t_told_weights, .inl (cy 0, 60, .inl t_told_weights))]) hP hD hK [2, 3, 0, 1] rfl (by decide) (by first | exact rfl | (dsimp only; exact rfl)) ht hW⟩, hS.F ht⟩) hS.2.2 dX3_takesNumber_48
  · replace h := h.2 c_1
    by_cases c_2 : t_due = (2 : Int32)
    · replace h := h.1 c_2
      refine lv_tableIn (off := 45) (tgt := 49) hx hb dX3_takesNumber_4 (by rw [c_2]; decide) (by rw [c_2]; decide) (by rw [c_2]; rfl) (by decide) ?_
      refine lv_aload_n hx hb dX3_takesNumber_49 rfl (lv_at hl 0 rfl) ?_
      refine lv_lload_n hx hb dX3_takesNumber_50 rfl (lv_at hl 1 rfl) ?_
      refine lv_iload_n hx hb dX3_takesNumber_51 rfl (lv_at hl 2 rfl) ?_
      refine xVv (wr := [(a_t_told_profits, .inl (cy 0, 60, .inl t_told_profits)), (a_t_told_weights, .inl (cy 0, 60, .inl t_told_weights))]) (As := [.long v1, .int v3]) (rest := []) ⟨hx, hb, hml, hown, hts⟩ (mtX3_takeMost l ad dC dI cy a_t a_t_told a_t_told_weights a_t_told_profits _ t_fault t_faultPlace t_due t_weight t_told_items t_told_room t_told_most t_told_steps v1 v3 h) (cwV 2 hts gX3_takesNumber_X3_takeMost rfl rfl rfl qX3_takeMost ⟨Nat.le_of_ble_eq_true rfl, Nat.le_of_ble_eq_true rfl⟩) hE hK hP hD hS hA 3 0 rfl rfl rfl [0, 1] [2, 3] rfl rfl (by decide) (by decide) (by decide) rfl hl.1 rfl (Nat.le_of_ble_eq_true rfl) dX3_takesNumber_52 ⟨Nat.le_refl _, Nat.le_refl _⟩ (fun u w1 H locs h hF hP hD hS => ?_)
      obtain ⟨m52_0, m52_1, m52_2⟩ := u
      try dsimp only at h
      replace hF : w1 = [(a_t, .inr (3, [.ref a_t_told, .int m52_0, .int m52_1, .int t_due, .int t_weight])), (a_t_told, .inr (1, [.ref a_t_told_weights, .ref a_t_told_profits, .int t_told_items, .int t_told_room, .int m52_2, .int t_told_steps]))] := hF
      subst hF
      have hP : va_P (dC, dI) vwCl [(a_t_told_profits, .inl (cy 0, 60, .inl t_told_profits)), (a_t_told_weights, .inl (cy 0, 60, .inl t_told_weights)), (a_t, .inr (3, [.ref a_t_told, .int m52_0, .int m52_1, .int t_due, .int t_weight])), (a_t_told, .inr (1, [.ref a_t_told_weights, .ref a_t_told_profits, .int t_told_items, .int t_told_room, .int m52_2, .int t_told_steps]))] H := hP
      have hD : va_D A [(a_t_told_profits, .inl (cy 0, 60, .inl t_told_profits)), (a_t_told_weights, .inl (cy 0, 60, .inl t_told_weights)), (a_t, .inr (3, [.ref a_t_told, .int m52_0, .int m52_1, .int t_due, .int t_weight])), (a_t_told, .inr (1, [.ref a_t_told_weights, .ref a_t_told_profits, .int t_told_items, .int t_told_room, .int m52_2, .int t_told_steps]))] := hD
      refine lv_aload_n hx hb dX3_takesNumber_55 rfl (lv_at hl 0 rfl) ?_
      refine lv_iconst (v := 5) hx hb dX3_takesNumber_56 (by decide) ?_
      refine va_put (D := (dC, dI)) (ci := 3) (v := .int (5 : Int32)) (C := RX3) (T := TX3) (N := 5) hx hb hts iX3_takesNumber_X3 tyX3 tyX3_ok nmX3 hown hK hP hD hS 2 rfl rfl 3 (Nat.le_of_ble_eq_true rfl) (hts _ kX3_takesNumber_0) (fun _ h9 => h9) rfl (tyX3_ok 3 (Nat.le_of_ble_eq_true rfl)) rfl rfl (Nat.le_of_ble_eq_true rfl) dX3_takesNumber_57 (fun H locs hP hD hS => ?_)
      have hP : va_P (dC, dI) vwCl [(a_t_told_profits, .inl (cy 0, 60, .inl t_told_profits)), (a_t_told_weights, .inl (cy 0, 60, .inl t_told_weights)), (a_t, .inr (3, [.ref a_t_told, .int m52_0, .int m52_1, .int (5 : Int32), .int t_weight])), (a_t_told, .inr (1, [.ref a_t_told_weights, .ref a_t_told_profits, .int t_told_items, .int t_told_room, .int m52_2, .int t_told_steps]))] H := hP
      have hD : va_D A [(a_t_told_profits, .inl (cy 0, 60, .inl t_told_profits)), (a_t_told_weights, .inl (cy 0, 60, .inl t_told_weights)), (a_t, .inr (3, [.ref a_t_told, .int m52_0, .int m52_1, .int (5 : Int32), .int t_weight])), (a_t_told, .inr (1, [.ref a_t_told_weights, .ref a_t_told_profits, .int t_told_items, .int t_told_room, .int m52_2, .int t_told_steps]))] := hD
      refine lv_iconst (v := 1) hx hb dX3_takesNumber_60 (by decide) ?_
      rw [← hQ]
      exact W.zret (v := (1 : Int32)) hx hb hr rfl (fun t ht hW => ⟨⟨(1 : Int32), (m52_0, m52_1, (5 : Int32), t_weight, t_told_items, t_told_room, m52_2, t_told_profits, t_told_weights), rfl, (by dsimp only; exact h), x_end (w1 := [(a_t, .inr (3, [.ref a_t_told, .int m52_0, .int m52_1, .int (5 : Int32), .int t_weight])), (a_t_told, .inr (1, [.ref a_t_told_weights, .ref a_t_told_profits, .int t_told_items, .int t_told_room, .int m52_2, .int t_told_steps])), (a_t_told_profits, .inl (cy 0, 60, .inl t_told_profits)), (a_t_told_weights, .inl (cy 0, 60, .inl t_told_weights))]) hP hD hK [2, 3, 0, 1] rfl (by decide) (by first | exact rfl | (dsimp only; exact rfl)) ht hW⟩, hS.F ht⟩) hS.2.2 dX3_takesNumber_61
    · replace h := h.2 c_2
      by_cases c_3 : t_due = (3 : Int32)
      · replace h := h.1 c_3
        refine lv_tableIn (off := 58) (tgt := 62) hx hb dX3_takesNumber_4 (by rw [c_3]; decide) (by rw [c_3]; decide) (by rw [c_3]; rfl) (by decide) ?_
        refine lv_aload_n hx hb dX3_takesNumber_62 rfl (lv_at hl 0 rfl) ?_
        refine lv_lload_n hx hb dX3_takesNumber_63 rfl (lv_at hl 1 rfl) ?_
        refine lv_aload_n hx hb dX3_takesNumber_64 rfl (lv_at hl 0 rfl) ?_
        refine va_get (D := (dC, dI)) (ci := 3) (v := .ref a_t_told) (C := RX3) (T := TX3) (N := 5) hx hb hts iX3_takesNumber_X3 hown hK hP 0 rfl rfl 0 (Nat.le_of_ble_eq_true rfl) (hts _ kX3_takesNumber_2) (fun _ h9 => h9) rfl dX3_takesNumber_65 ?_
        refine xVl0 (As := []) (rest := [.long v1, .ref a_t]) ⟨hx, hb, hml, hown, hts⟩ (mtX1_allWeights l ad dC dI cy a_t_told a_t_told_weights a_t_told_profits _ t_told_items t_told_room t_told_most t_told_steps t_told_weights  h) (cwV 0 hts gX3_takesNumber_X1_allWeights rfl rfl rfl qX1_allWeights ⟨Nat.le_of_ble_eq_true rfl, Nat.le_of_ble_eq_true rfl⟩) hE hK hP hD hS hA 1 0 rfl rfl rfl [1, 3] rfl (by decide) rfl hl.1 rfl (Nat.le_of_ble_eq_true rfl) dX3_takesNumber_68 ⟨Nat.le_refl _, Nat.le_refl _⟩ (fun r68 H locs h hP hS => ?_)
        try dsimp only at h
        refine lv_iload_n hx hb dX3_takesNumber_71 rfl (lv_at hl 2 rfl) ?_
        refine xVv (wr := [(a_t_told, .inr (1, [.ref a_t_told_weights, .ref a_t_told_profits, .int t_told_items, .int t_told_room, .int t_told_most, .int t_told_steps])), (a_t_told_profits, .inl (cy 0, 60, .inl t_told_profits)), (a_t_told_weights, .inl (cy 0, 60, .inl t_told_weights))]) (As := [.long v1, .long r68, .int v3]) (rest := []) ⟨hx, hb, hml, hown, hts⟩ (mtX3_noteItemsNumber l ad dC dI cy a_t a_t_told _ t_fault t_faultPlace t_due t_weight v1 r68 v3 h) (cwV 3 hts gX3_takesNumber_X3_noteItemsNumber rfl rfl rfl qX3_noteItemsNumber ⟨Nat.le_of_ble_eq_true rfl, Nat.le_of_ble_eq_true rfl⟩) hE hK hP hD hS hA 3 0 rfl rfl rfl [0] [1, 2, 3] rfl rfl (by decide) (by decide) (by decide) rfl hl.1 rfl (Nat.le_of_ble_eq_true rfl) dX3_takesNumber_72 ⟨Nat.le_refl _, Nat.le_refl _⟩ (fun u w1 H locs h hF hP hD hS => ?_)
        obtain ⟨m72_0, m72_1⟩ := u
        try dsimp only at h
        replace hF : w1 = [(a_t, .inr (3, [.ref a_t_told, .int m72_0, .int m72_1, .int t_due, .int t_weight]))] := hF
        subst hF
        have hP : va_P (dC, dI) vwCl [(a_t_told, .inr (1, [.ref a_t_told_weights, .ref a_t_told_profits, .int t_told_items, .int t_told_room, .int t_told_most, .int t_told_steps])), (a_t_told_profits, .inl (cy 0, 60, .inl t_told_profits)), (a_t_told_weights, .inl (cy 0, 60, .inl t_told_weights)), (a_t, .inr (3, [.ref a_t_told, .int m72_0, .int m72_1, .int t_due, .int t_weight]))] H := hP
        have hD : va_D A [(a_t_told, .inr (1, [.ref a_t_told_weights, .ref a_t_told_profits, .int t_told_items, .int t_told_room, .int t_told_most, .int t_told_steps])), (a_t_told_profits, .inl (cy 0, 60, .inl t_told_profits)), (a_t_told_weights, .inl (cy 0, 60, .inl t_told_weights)), (a_t, .inr (3, [.ref a_t_told, .int m72_0, .int m72_1, .int t_due, .int t_weight]))] := hD
        refine lv_aload_n hx hb dX3_takesNumber_75 rfl (lv_at hl 0 rfl) ?_
        refine lv_lload_n hx hb dX3_takesNumber_76 rfl (lv_at hl 1 rfl) ?_
        refine lv_l2i hx hb dX3_takesNumber_77 rfl ?_
        refine va_put (D := (dC, dI)) (ci := 3) (v := .int ((v1).toInt32)) (C := RX3) (T := TX3) (N := 5) hx hb hts iX3_takesNumber_X3 tyX3 tyX3_ok nmX3 hown hK hP hD hS 3 rfl rfl 4 (Nat.le_of_ble_eq_true rfl) (hts _ kX3_takesNumber_1) (fun _ h9 => h9) rfl (tyX3_ok 4 (Nat.le_of_ble_eq_true rfl)) rfl rfl (Nat.le_of_ble_eq_true rfl) dX3_takesNumber_78 (fun H locs hP hD hS => ?_)
        have hP : va_P (dC, dI) vwCl [(a_t_told, .inr (1, [.ref a_t_told_weights, .ref a_t_told_profits, .int t_told_items, .int t_told_room, .int t_told_most, .int t_told_steps])), (a_t_told_profits, .inl (cy 0, 60, .inl t_told_profits)), (a_t_told_weights, .inl (cy 0, 60, .inl t_told_weights)), (a_t, .inr (3, [.ref a_t_told, .int m72_0, .int m72_1, .int t_due, .int ((v1).toInt32)]))] H := hP
        have hD : va_D A [(a_t_told, .inr (1, [.ref a_t_told_weights, .ref a_t_told_profits, .int t_told_items, .int t_told_room, .int t_told_most, .int t_told_steps])), (a_t_told_profits, .inl (cy 0, 60, .inl t_told_profits)), (a_t_told_weights, .inl (cy 0, 60, .inl t_told_weights)), (a_t, .inr (3, [.ref a_t_told, .int m72_0, .int m72_1, .int t_due, .int ((v1).toInt32)]))] := hD
        refine lv_aload_n hx hb dX3_takesNumber_81 rfl (lv_at hl 0 rfl) ?_
        refine lv_iconst (v := 4) hx hb dX3_takesNumber_82 (by decide) ?_
        refine va_put (D := (dC, dI)) (ci := 3) (v := .int (4 : Int32)) (C := RX3) (T := TX3) (N := 5) hx hb hts iX3_takesNumber_X3 tyX3 tyX3_ok nmX3 hown hK hP hD hS 3 rfl rfl 3 (Nat.le_of_ble_eq_true rfl) (hts _ kX3_takesNumber_0) (fun _ h9 => h9) rfl (tyX3_ok 3 (Nat.le_of_ble_eq_true rfl)) rfl rfl (Nat.le_of_ble_eq_true rfl) dX3_takesNumber_83 (fun H locs hP hD hS => ?_)
        have hP : va_P (dC, dI) vwCl [(a_t_told, .inr (1, [.ref a_t_told_weights, .ref a_t_told_profits, .int t_told_items, .int t_told_room, .int t_told_most, .int t_told_steps])), (a_t_told_profits, .inl (cy 0, 60, .inl t_told_profits)), (a_t_told_weights, .inl (cy 0, 60, .inl t_told_weights)), (a_t, .inr (3, [.ref a_t_told, .int m72_0, .int m72_1, .int (4 : Int32), .int ((v1).toInt32)]))] H := hP
        have hD : va_D A [(a_t_told, .inr (1, [.ref a_t_told_weights, .ref a_t_told_profits, .int t_told_items, .int t_told_room, .int t_told_most, .int t_told_steps])), (a_t_told_profits, .inl (cy 0, 60, .inl t_told_profits)), (a_t_told_weights, .inl (cy 0, 60, .inl t_told_weights)), (a_t, .inr (3, [.ref a_t_told, .int m72_0, .int m72_1, .int (4 : Int32), .int ((v1).toInt32)]))] := hD
        refine lv_iconst (v := 1) hx hb dX3_takesNumber_86 (by decide) ?_
        rw [← hQ]
        exact W.zret (v := (1 : Int32)) hx hb hr rfl (fun t ht hW => ⟨⟨(1 : Int32), (m72_0, m72_1, (4 : Int32), (v1).toInt32, t_told_items, t_told_room, t_told_most, t_told_profits, t_told_weights), rfl, (by dsimp only; exact h), x_end (w1 := [(a_t, .inr (3, [.ref a_t_told, .int m72_0, .int m72_1, .int (4 : Int32), .int ((v1).toInt32)])), (a_t_told, .inr (1, [.ref a_t_told_weights, .ref a_t_told_profits, .int t_told_items, .int t_told_room, .int t_told_most, .int t_told_steps])), (a_t_told_profits, .inl (cy 0, 60, .inl t_told_profits)), (a_t_told_weights, .inl (cy 0, 60, .inl t_told_weights))]) hP hD hK [3, 0, 1, 2] rfl (by decide) (by first | exact rfl | (dsimp only; exact rfl)) ht hW⟩, hS.F ht⟩) hS.2.2 dX3_takesNumber_87
      · replace h := h.2 c_3
        by_cases c_4 : t_due = (4 : Int32)
        · replace h := h.1 c_4
          refine lv_tableIn (off := 84) (tgt := 88) hx hb dX3_takesNumber_4 (by rw [c_4]; decide) (by rw [c_4]; decide) (by rw [c_4]; rfl) (by decide) ?_
          refine lv_aload_n hx hb dX3_takesNumber_88 rfl (lv_at hl 0 rfl) ?_
          refine lv_lload_n hx hb dX3_takesNumber_89 rfl (lv_at hl 1 rfl) ?_
          refine lv_aload_n hx hb dX3_takesNumber_90 rfl (lv_at hl 0 rfl) ?_
          refine va_get (D := (dC, dI)) (ci := 3) (v := .ref a_t_told) (C := RX3) (T := TX3) (N := 5) hx hb hts iX3_takesNumber_X3 hown hK hP 0 rfl rfl 0 (Nat.le_of_ble_eq_true rfl) (hts _ kX3_takesNumber_2) (fun _ h9 => h9) rfl dX3_takesNumber_91 ?_
          refine xVl0 (As := []) (rest := [.long v1, .ref a_t]) ⟨hx, hb, hml, hown, hts⟩ (mtX1_allProfits l ad dC dI cy a_t_told a_t_told_weights a_t_told_profits _ t_told_items t_told_room t_told_most t_told_steps t_told_profits  h) (cwV 0 hts gX3_takesNumber_X1_allProfits rfl rfl rfl qX1_allProfits ⟨Nat.le_of_ble_eq_true rfl, Nat.le_of_ble_eq_true rfl⟩) hE hK hP hD hS hA 1 0 rfl rfl rfl [1, 2] rfl (by decide) rfl hl.1 rfl (Nat.le_of_ble_eq_true rfl) dX3_takesNumber_94 ⟨Nat.le_refl _, Nat.le_refl _⟩ (fun r94 H locs h hP hS => ?_)
          try dsimp only at h
          refine lv_iload_n hx hb dX3_takesNumber_97 rfl (lv_at hl 2 rfl) ?_
          refine xVv (wr := [(a_t_told, .inr (1, [.ref a_t_told_weights, .ref a_t_told_profits, .int t_told_items, .int t_told_room, .int t_told_most, .int t_told_steps])), (a_t_told_profits, .inl (cy 0, 60, .inl t_told_profits)), (a_t_told_weights, .inl (cy 0, 60, .inl t_told_weights))]) (As := [.long v1, .long r94, .int v3]) (rest := []) ⟨hx, hb, hml, hown, hts⟩ (mtX3_noteItemsNumber l ad dC dI cy a_t a_t_told _ t_fault t_faultPlace t_due t_weight v1 r94 v3 h) (cwV 3 hts gX3_takesNumber_X3_noteItemsNumber rfl rfl rfl qX3_noteItemsNumber ⟨Nat.le_of_ble_eq_true rfl, Nat.le_of_ble_eq_true rfl⟩) hE hK hP hD hS hA 3 0 rfl rfl rfl [0] [1, 2, 3] rfl rfl (by decide) (by decide) (by decide) rfl hl.1 rfl (Nat.le_of_ble_eq_true rfl) dX3_takesNumber_98 ⟨Nat.le_refl _, Nat.le_refl _⟩ (fun u w1 H locs h hF hP hD hS => ?_)
          obtain ⟨m98_0, m98_1⟩ := u
          try dsimp only at h
          replace hF : w1 = [(a_t, .inr (3, [.ref a_t_told, .int m98_0, .int m98_1, .int t_due, .int t_weight]))] := hF
          subst hF
          have hP : va_P (dC, dI) vwCl [(a_t_told, .inr (1, [.ref a_t_told_weights, .ref a_t_told_profits, .int t_told_items, .int t_told_room, .int t_told_most, .int t_told_steps])), (a_t_told_profits, .inl (cy 0, 60, .inl t_told_profits)), (a_t_told_weights, .inl (cy 0, 60, .inl t_told_weights)), (a_t, .inr (3, [.ref a_t_told, .int m98_0, .int m98_1, .int t_due, .int t_weight]))] H := hP
          have hD : va_D A [(a_t_told, .inr (1, [.ref a_t_told_weights, .ref a_t_told_profits, .int t_told_items, .int t_told_room, .int t_told_most, .int t_told_steps])), (a_t_told_profits, .inl (cy 0, 60, .inl t_told_profits)), (a_t_told_weights, .inl (cy 0, 60, .inl t_told_weights)), (a_t, .inr (3, [.ref a_t_told, .int m98_0, .int m98_1, .int t_due, .int t_weight]))] := hD
          refine lv_aload_n hx hb dX3_takesNumber_101 rfl (lv_at hl 0 rfl) ?_
          refine lv_lload_n hx hb dX3_takesNumber_102 rfl (lv_at hl 1 rfl) ?_
          refine lv_l2i hx hb dX3_takesNumber_103 rfl ?_
          refine xVv (wr := []) (As := [.int ((v1).toInt32)]) (rest := []) ⟨hx, hb, hml, hown, hts⟩ (mtX3_takeItem l ad dC dI cy a_t a_t_told a_t_told_weights a_t_told_profits _ m98_0 m98_1 t_due t_weight t_told_items t_told_room t_told_most t_told_steps t_told_weights t_told_profits ((v1).toInt32) h) (cwV 1 hts gX3_takesNumber_X3_takeItem rfl rfl rfl qX3_takeItem ⟨Nat.le_of_ble_eq_true rfl, Nat.le_of_ble_eq_true rfl⟩) hE hK hP hD hS hA 3 0 rfl rfl rfl [3, 0, 2, 1] [] rfl rfl (by decide) (by decide) (by decide) rfl hl.1 rfl (Nat.le_of_ble_eq_true rfl) dX3_takesNumber_104 ⟨Nat.le_refl _, Nat.le_refl _⟩ (fun u w1 H locs h hF hP hD hS => ?_)
          obtain ⟨m104_0, m104_1, m104_2⟩ := u
          try dsimp only at h
          replace hF : w1 = [(a_t, .inr (3, [.ref a_t_told, .int m98_0, .int m98_1, .int t_due, .int t_weight])), (a_t_told, .inr (1, [.ref a_t_told_weights, .ref a_t_told_profits, .int m104_0, .int t_told_room, .int t_told_most, .int t_told_steps])), (a_t_told_weights, .inl (cy 0, 60, .inl m104_1)), (a_t_told_profits, .inl (cy 0, 60, .inl m104_2))] := hF
          subst hF
          have hP : va_P (dC, dI) vwCl [(a_t, .inr (3, [.ref a_t_told, .int m98_0, .int m98_1, .int t_due, .int t_weight])), (a_t_told, .inr (1, [.ref a_t_told_weights, .ref a_t_told_profits, .int m104_0, .int t_told_room, .int t_told_most, .int t_told_steps])), (a_t_told_weights, .inl (cy 0, 60, .inl m104_1)), (a_t_told_profits, .inl (cy 0, 60, .inl m104_2))] H := hP
          have hD : va_D A [(a_t, .inr (3, [.ref a_t_told, .int m98_0, .int m98_1, .int t_due, .int t_weight])), (a_t_told, .inr (1, [.ref a_t_told_weights, .ref a_t_told_profits, .int m104_0, .int t_told_room, .int t_told_most, .int t_told_steps])), (a_t_told_weights, .inl (cy 0, 60, .inl m104_1)), (a_t_told_profits, .inl (cy 0, 60, .inl m104_2))] := hD
          refine lv_aload_n hx hb dX3_takesNumber_107 rfl (lv_at hl 0 rfl) ?_
          refine lv_iconst (v := 5) hx hb dX3_takesNumber_108 (by decide) ?_
          refine va_put (D := (dC, dI)) (ci := 3) (v := .int (5 : Int32)) (C := RX3) (T := TX3) (N := 5) hx hb hts iX3_takesNumber_X3 tyX3 tyX3_ok nmX3 hown hK hP hD hS 0 rfl rfl 3 (Nat.le_of_ble_eq_true rfl) (hts _ kX3_takesNumber_0) (fun _ h9 => h9) rfl (tyX3_ok 3 (Nat.le_of_ble_eq_true rfl)) rfl rfl (Nat.le_of_ble_eq_true rfl) dX3_takesNumber_109 (fun H locs hP hD hS => ?_)
          have hP : va_P (dC, dI) vwCl [(a_t, .inr (3, [.ref a_t_told, .int m98_0, .int m98_1, .int (5 : Int32), .int t_weight])), (a_t_told, .inr (1, [.ref a_t_told_weights, .ref a_t_told_profits, .int m104_0, .int t_told_room, .int t_told_most, .int t_told_steps])), (a_t_told_weights, .inl (cy 0, 60, .inl m104_1)), (a_t_told_profits, .inl (cy 0, 60, .inl m104_2))] H := hP
          have hD : va_D A [(a_t, .inr (3, [.ref a_t_told, .int m98_0, .int m98_1, .int (5 : Int32), .int t_weight])), (a_t_told, .inr (1, [.ref a_t_told_weights, .ref a_t_told_profits, .int m104_0, .int t_told_room, .int t_told_most, .int t_told_steps])), (a_t_told_weights, .inl (cy 0, 60, .inl m104_1)), (a_t_told_profits, .inl (cy 0, 60, .inl m104_2))] := hD
          refine lv_iconst (v := 1) hx hb dX3_takesNumber_112 (by decide) ?_
          rw [← hQ]
          exact W.zret (v := (1 : Int32)) hx hb hr rfl (fun t ht hW => ⟨⟨(1 : Int32), (m98_0, m98_1, (5 : Int32), t_weight, m104_0, t_told_room, t_told_most, m104_2, m104_1), rfl, (by dsimp only; exact h), x_end (w1 := [(a_t, .inr (3, [.ref a_t_told, .int m98_0, .int m98_1, .int (5 : Int32), .int t_weight])), (a_t_told, .inr (1, [.ref a_t_told_weights, .ref a_t_told_profits, .int m104_0, .int t_told_room, .int t_told_most, .int t_told_steps])), (a_t_told_profits, .inl (cy 0, 60, .inl m104_2)), (a_t_told_weights, .inl (cy 0, 60, .inl m104_1))]) hP hD hK [0, 1, 3, 2] rfl (by decide) (by first | exact rfl | (dsimp only; exact rfl)) ht hW⟩, hS.F ht⟩) hS.2.2 dX3_takesNumber_113
        · replace h := h.2 c_4
          have zc_1 : ¬ (t_due).toInt = (1 : Int) := lv_neT c_1 (by decide)
          have zc_2 : ¬ (t_due).toInt = (2 : Int) := lv_neT c_2 (by decide)
          have zc_3 : ¬ (t_due).toInt = (3 : Int) := lv_neT c_3 (by decide)
          have zc_4 : ¬ (t_due).toInt = (4 : Int) := lv_neT c_4 (by decide)
          refine lv_tableOut (tgt := 114) hx hb dX3_takesNumber_4 (by omega) (by decide) ?_
          refine lv_iconst (v := 0) hx hb dX3_takesNumber_114 (by decide) ?_
          rw [← hQ]
          exact W.zret (v := (0 : Int32)) hx hb hr rfl (fun t ht hW => ⟨⟨(0 : Int32), (t_fault, t_faultPlace, t_due, t_weight, t_told_items, t_told_room, t_told_most, t_told_profits, t_told_weights), rfl, (by dsimp only; exact h), x_end (w1 := [(a_t, .inr (3, [.ref a_t_told, .int t_fault, .int t_faultPlace, .int t_due, .int t_weight])), (a_t_told, .inr (1, [.ref a_t_told_weights, .ref a_t_told_profits, .int t_told_items, .int t_told_room, .int t_told_most, .int t_told_steps])), (a_t_told_profits, .inl (cy 0, 60, .inl t_told_profits)), (a_t_told_weights, .inl (cy 0, 60, .inl t_told_weights))]) hP hD hK [0, 1, 2, 3] rfl (by decide) (by first | exact rfl | (dsimp only; exact rfl)) ht hW⟩, hS.F ht⟩) hS.2.2 dX3_takesNumber_115

def wX3_valueOf_5_b (p0 : Nat → Int32) (n_p0 : Nat) (post : Int64 → Prop) (K5 : Int32 → Int64 → Int32 → Prop) (v2 : Int32) (v3 : Int64) (v5 : Int32) : Prop :=
  (v2 ≤ v5 → post v3) ∧ (¬ v2 ≤ v5 → vp_in v5 n_p0 ∧ K5 v2 (((10 : Int64) * v3) + (((p0 (v5).toNatClampNeg) - (48 : Int32))).toInt64) (v5 + (1 : Int32)))
def wX3_valueOf_5 (p0 : Nat → Int32) (n_p0 : Nat) (post : Int64 → Prop) : Nat → Int32 → Int64 → Int32 → Prop
  | 0 => fun _ _ _ => False
  | n + 1 => wX3_valueOf_5_b p0 n_p0 post (wX3_valueOf_5 p0 n_p0 post n)
/-- KnapsackCore$Reader.valueOf([BII)J -/
def wX3_valueOf (p0 : Nat → Int32) (n_p0 : Nat) (post : Int64 → Prop) (v1 v2 : Int32) : Prop :=
  ∃ n : Nat, wX3_valueOf_5 p0 n_p0 post n v2 (0 : Int64) v1
theorem kX3_valueOf_0 : Cond.constantLong RX3 90 (10) ∈ wsX3_valueOf := (List.mem_cons_of_mem _ (List.mem_of_getElem? (i := 0) rfl))
set_option maxHeartbeats 4000000 in
set_option maxRecDepth 100000 in
theorem mtX3_valueOf (l : Launch) (ad : (Nat → Nat) × (Nat → Nat)) (dC : Nat → ClassId) (dI : Nat → Nat → Nat) (cy : Nat → ClassId) (a_p0 : Nat) (sz : Nat) (p0 : Nat → Int32) (n_p0 : Nat) (v1 v2 : Int32) {post : Int64 → Prop} (h : wX3_valueOf p0 n_p0 post v1 v2) : xMl l yX3_valueOf wsX3_valueOf ({ frames := 0, cells := 0, slots := 0, locals := 0 } : Room) ad (dC, dI) vwCl (xT cy) [.ref a_p0, .int v1, .int v2] [(a_p0, .inl (cy 2, n_p0, .inl p0))] sz (fun (r : Int64) (_ : Unit) => post r) (fun (_ : Unit) w => w = [(a_p0, .inl (cy 2, n_p0, .inl p0))]) 0 0 := by
  unfold xMl
  refine Met.ofW (cc := cX3_valueOf) (maxL := 6) (ret := (some .long)) (by decide +kernel) rfl ?_
  intro p e s m args below meth c s₁ B hml hv
  obtain ⟨rfl, hsz, hP, hK, hD0, hE⟩ := hv
  have hx := B.exec
  have hb := B.bytes
  have hr := B.returns
  have hts := atoms_spec (ws := wsX3_valueOf) B.pre
  have hown : s.vm.findClass RX3 = some m.cls := findClass_of_methodNamed B.named
  have hlocks := B.notSynchronized
  subst hsz
  have hD := hD0.self (sz := s.heap.size)
  generalize hAe : va_A [(a_p0, .inl (cy 2, n_p0, .inl p0))] s.heap.size = A at hD hE ⊢
  have hA : ∀ q : Nat, s.heap.size ≤ q → A q := fun q h => by rw [← hAe]; exact Or.inr h
  have hS : va_S A s.heap s.heap [] := va_S.rf
  have hl := lv_entry ([.ref a_p0, .int v1, .int v2]) (n := 6) (Nat.le_of_ble_eq_true rfl)
  rw [lg_entry_eq]
  generalize (lg_sl ([.ref a_p0, .int v1, .int v2]) ++ List.replicate (6 - (lg_sl ([.ref a_p0, .int v1, .int v2])).length) Slot.unset).toArray = ls at hl ⊢
  have hl : lv_has ls 6 [(0, .ref a_p0), (1, .int v1), (2, .int v2)] := hl
  generalize hQ : MQ below _ _ s _ _ _ = Q
  generalize ([.ref a_p0, .int v1, .int v2] : List Value).toArray = args at hts hQ ⊢
  clear B hD0 hAe
  have L5 : ∀ n : Nat, ∀ (v2 : Int32) (v3 : Int64) (v5 : Int32), wX3_valueOf_5 p0 n_p0 post n v2 v3 v5 → ∀ (H : Heap) (locs : List Loc) (ls : Array Slot), va_P (dC, dI) vwCl [(a_p0, .inl (cy 2, n_p0, .inl p0))] H → va_D A [(a_p0, .inl (cy 2, n_p0, .inl p0))] → va_S A s.heap H locs → lv_has ls 6 [(0, .ref a_p0), (2, .int v2), (3, .long v3), (5, .int v5)] → W p l e (headSpec wsX3_valueOf ({ frames := 0, cells := 0, slots := 0, locals := 0 } : Room)).room s m args below meth c H locs 0 0 Q (F0 m 5 ls []) := by
    intro n
    induction n with
    | zero => intro v2 v3 v5 h; exact False.elim h
    | succ n5 ih5 =>
      intro v2 v3 v5 h H locs ls hP hD hS hl
      replace h : wX3_valueOf_5_b p0 n_p0 post (wX3_valueOf_5 p0 n_p0 post n5) v2 v3 v5 := h
      refine lv_iload hx hb dX3_valueOf_5 (lv_at hl 3 rfl) ?_
      refine lv_iload_n hx hb dX3_valueOf_7 rfl (lv_at hl 1 rfl) ?_
      refine lv_icmp_ge (tgt := 32) hx hb dX3_valueOf_8 (by decide) (fun c_1 => ?_) (fun c_1 => ?_)
      · replace h := h.1 c_1
        refine lv_lload_n hx hb dX3_valueOf_32 rfl (lv_at hl 2 rfl) ?_
        rw [← hQ]
        exact W.lret (v := v3) hx hb hr (fun t ht hW => ⟨⟨v3, (), rfl, h, x_end (w1 := [(a_p0, .inl (cy 2, n_p0, .inl p0))]) hP hD hK [0] rfl (by decide) rfl ht hW⟩, hS.F ht⟩) hS.2.2 dX3_valueOf_33
      · replace h := h.2 c_1
        refine lv_ldc2 hx hb hown (hts _ kX3_valueOf_0) dX3_valueOf_11 ?_
        refine lv_lload_n hx hb dX3_valueOf_14 rfl (lv_at hl 2 rfl) ?_
        refine lv_lmul hx hb dX3_valueOf_15 ?_
        refine lv_aload_n hx hb dX3_valueOf_16 rfl (lv_at hl 0 rfl) ?_
        refine lv_iload hx hb dX3_valueOf_17 (lv_at hl 3 rfl) ?_
        refine va_bald (D := (dC, dI)) hx hb hK hP 0 2 rfl rfl h.1 dX3_valueOf_19 ?_
        replace h := h.2
        refine lv_bipush (v := 48) hx hb dX3_valueOf_20 (by decide) ?_
        refine lv_isub hx hb dX3_valueOf_22 ?_
        refine lv_i2l hx hb dX3_valueOf_23 rfl ?_
        refine lv_ladd hx hb dX3_valueOf_24 ?_
        refine lv_lstore_n (lv' := [(3, .long (((10 : Int64) * v3) + (((p0 (v5).toNatClampNeg) - (48 : Int32))).toInt64)), (0, .ref a_p0), (2, .int v2), (5, .int v5)]) hx hb dX3_valueOf_25 rfl hl (by decide) rfl (fun ls hl => ?_)
        refine lv_iinc (v := (v5 + (1 : Int32))) (lv' := [(5, .int (v5 + (1 : Int32))), (3, .long (((10 : Int64) * v3) + (((p0 (v5).toNatClampNeg) - (48 : Int32))).toInt64)), (0, .ref a_p0), (2, .int v2)]) hx hb dX3_valueOf_26 hl (k := 3) rfl rfl (by decide) rfl (fun ls hl => ?_)
        refine lv_goto (tgt := 5) hx hb dX3_valueOf_29 (by decide) ?_
        exact ih5 v2 (((10 : Int64) * v3) + (((p0 (v5).toNatClampNeg) - (48 : Int32))).toInt64) (v5 + (1 : Int32)) h _ _ _ (x_sub hP [0] rfl) (hD.sub [0] (by decide) rfl) hS (lv_sub hl [2, 3, 1, 0] rfl)
  refine lv_lconst (v := 0) hx hb dX3_valueOf_0 (by decide) ?_
  refine lv_lstore_n (lv' := [(3, .long (0 : Int64)), (0, .ref a_p0), (1, .int v1), (2, .int v2)]) hx hb dX3_valueOf_1 rfl hl (by decide) rfl (fun ls hl => ?_)
  refine lv_iload_n hx hb dX3_valueOf_2 rfl (lv_at hl 2 rfl) ?_
  refine lv_istore (lv' := [(5, .int v1), (3, .long (0 : Int64)), (0, .ref a_p0), (1, .int v1), (2, .int v2)]) hx hb dX3_valueOf_3 hl (by decide) rfl (fun ls hl => ?_)
  obtain ⟨n9, h⟩ := h
  exact L5 n9 v2 (0 : Int64) v1 h _ _ _ (x_sub hP [0] rfl) (hD.sub [0] (by decide) rfl) hS (lv_sub hl [2, 4, 1, 0] rfl)

/-- KnapsackCore$Sets.has(I)Z -/
def wX4_has (t_size : Int32) (post : Int32 → Prop) (v1 : Int32) : Prop :=
  (v1 < (0 : Int32) → post (0 : Int32)) ∧ (¬ v1 < (0 : Int32) → (t_size ≤ v1 → post (0 : Int32)) ∧ (¬ t_size ≤ v1 → post (1 : Int32)))
theorem kX4_has_0 : Cond.fieldLink RX4 20 "KnapsackCore$Sets" "size" "I" ∈ wsX4_has := (List.mem_cons_of_mem _ (List.mem_append_left _ (List.mem_of_getElem? (i := 0) rfl)))
theorem iX4_has_X4 : ∀ w ∈ u_ws RX4 TX4 4, w ∈ wsX4_has := fun w h => (List.mem_cons_of_mem _ (List.mem_append_right _ h))
set_option maxHeartbeats 4000000 in
set_option maxRecDepth 100000 in
theorem mtX4_has (l : Launch) (ad : (Nat → Nat) × (Nat → Nat)) (dC : Nat → ClassId) (dI : Nat → Nat → Nat) (cy : Nat → ClassId) (a_t a_t_weights a_t_profits a_t_bits : Nat) (sz : Nat) (t_size v1 : Int32) {post : Int32 → Prop} (h : wX4_has t_size post v1) : xMi l yX4_has wsX4_has ({ frames := 0, cells := 0, slots := 0, locals := 0 } : Room) ad (dC, dI) vwCl (xT cy) [.ref a_t, .int v1] [(a_t, .inr (4, [.ref a_t_weights, .ref a_t_profits, .ref a_t_bits, .int t_size]))] sz (fun (r : Int32) (_ : Unit) => post r) (fun (_ : Unit) w => w = [(a_t, .inr (4, [.ref a_t_weights, .ref a_t_profits, .ref a_t_bits, .int t_size]))]) 0 0 := by
  unfold xMi
  refine Met.ofW (cc := cX4_has) (maxL := 2) (ret := (some .boolean)) (by decide +kernel) rfl ?_
  intro p e s m args below meth c s₁ B hml hv
  obtain ⟨rfl, hsz, hP, hK, hD0, hE⟩ := hv
  have hx := B.exec
  have hb := B.bytes
  have hr := B.returns
  have hts := atoms_spec (ws := wsX4_has) B.pre
  have hown : s.vm.findClass RX4 = some m.cls := findClass_of_methodNamed B.named
  have hlocks := B.notSynchronized
  subst hsz
  have hD := hD0.self (sz := s.heap.size)
  generalize hAe : va_A [(a_t, .inr (4, [.ref a_t_weights, .ref a_t_profits, .ref a_t_bits, .int t_size]))] s.heap.size = A at hD hE ⊢
  have hA : ∀ q : Nat, s.heap.size ≤ q → A q := fun q h => by rw [← hAe]; exact Or.inr h
  have hS : va_S A s.heap s.heap [] := va_S.rf
  have hl := lv_entry ([.ref a_t, .int v1]) (n := 2) (Nat.le_of_ble_eq_true rfl)
  rw [lg_entry_eq]
  generalize (lg_sl ([.ref a_t, .int v1]) ++ List.replicate (2 - (lg_sl ([.ref a_t, .int v1])).length) Slot.unset).toArray = ls at hl ⊢
  have hl : lv_has ls 2 [(0, .ref a_t), (1, .int v1)] := hl
  generalize hQ : MQ below _ _ s _ _ _ = Q
  generalize ([.ref a_t, .int v1] : List Value).toArray = args at hts hQ ⊢
  clear B hD0 hAe
  refine lv_iload_n hx hb dX4_has_0 rfl (lv_at hl 1 rfl) ?_
  refine lv_if_lt (tgt := 16) hx hb dX4_has_1 (by decide) (fun c_1 => ?_) (fun c_1 => ?_)
  · replace h := h.1 c_1
    refine lv_iconst (v := 0) hx hb dX4_has_16 (by decide) ?_
    rw [← hQ]
    exact W.zret (v := (0 : Int32)) hx hb hr rfl (fun t ht hW => ⟨⟨(0 : Int32), (), rfl, h, x_end (w1 := [(a_t, .inr (4, [.ref a_t_weights, .ref a_t_profits, .ref a_t_bits, .int t_size]))]) hP hD hK [0] rfl (by decide) rfl ht hW⟩, hS.F ht⟩) hS.2.2 dX4_has_17
  · replace h := h.2 c_1
    refine lv_iload_n hx hb dX4_has_4 rfl (lv_at hl 1 rfl) ?_
    refine lv_aload_n hx hb dX4_has_5 rfl (lv_at hl 0 rfl) ?_
    refine va_get (D := (dC, dI)) (ci := 4) (v := .int t_size) (C := RX4) (T := TX4) (N := 4) hx hb hts iX4_has_X4 hown hK hP 0 rfl rfl 3 (Nat.le_of_ble_eq_true rfl) (hts _ kX4_has_0) (fun _ h9 => h9) rfl dX4_has_6 ?_
    refine lv_icmp_ge (tgt := 16) hx hb dX4_has_9 (by decide) (fun c_2 => ?_) (fun c_2 => ?_)
    · replace h := h.1 c_2
      refine lv_iconst (v := 0) hx hb dX4_has_16 (by decide) ?_
      rw [← hQ]
      exact W.zret (v := (0 : Int32)) hx hb hr rfl (fun t ht hW => ⟨⟨(0 : Int32), (), rfl, h, x_end (w1 := [(a_t, .inr (4, [.ref a_t_weights, .ref a_t_profits, .ref a_t_bits, .int t_size]))]) hP hD hK [0] rfl (by decide) rfl ht hW⟩, hS.F ht⟩) hS.2.2 dX4_has_17
    · replace h := h.2 c_2
      refine lv_iconst (v := 1) hx hb dX4_has_12 (by decide) ?_
      refine lv_goto (tgt := 17) hx hb dX4_has_13 (by decide) ?_
      rw [← hQ]
      exact W.zret (v := (1 : Int32)) hx hb hr rfl (fun t ht hW => ⟨⟨(1 : Int32), (), rfl, h, x_end (w1 := [(a_t, .inr (4, [.ref a_t_weights, .ref a_t_profits, .ref a_t_bits, .int t_size]))]) hP hD hK [0] rfl (by decide) rfl ht hW⟩, hS.F ht⟩) hS.2.2 dX4_has_17

/-- KnapsackCore$Sets.isAhead(IIIIJ)Z -/
def wX4_isAhead (t_weights : Nat → Int32) (n_t_weights : Nat) (t_profits : Nat → Int32) (n_t_profits : Nat) (t_bits : Nat → Int64) (n_t_bits : Nat) (post : Int32 → Prop) (v1 v2 v3 v4 : Int32) (v5 : Int64) : Prop :=
  vp_in v1 n_t_weights ∧ vp_in v2 n_t_weights ∧ ((t_weights (v1).toNatClampNeg) = ((t_weights (v2).toNatClampNeg) + v3) → vp_in v1 n_t_profits ∧ vp_in v2 n_t_profits ∧ ((t_profits (v1).toNatClampNeg) = ((t_profits (v2).toNatClampNeg) + v4) → vp_in v1 n_t_bits ∧ vp_in v2 n_t_bits ∧ (((t_bits (v2).toNatClampNeg) + v5) ≤ (t_bits (v1).toNatClampNeg) → post (0 : Int32)) ∧ (¬ ((t_bits (v2).toNatClampNeg) + v5) ≤ (t_bits (v1).toNatClampNeg) → post (1 : Int32))) ∧ (¬ (t_profits (v1).toNatClampNeg) = ((t_profits (v2).toNatClampNeg) + v4) → vp_in v1 n_t_profits ∧ vp_in v2 n_t_profits ∧ ((t_profits (v1).toNatClampNeg) ≤ ((t_profits (v2).toNatClampNeg) + v4) → post (0 : Int32)) ∧ (¬ (t_profits (v1).toNatClampNeg) ≤ ((t_profits (v2).toNatClampNeg) + v4) → post (1 : Int32)))) ∧ (¬ (t_weights (v1).toNatClampNeg) = ((t_weights (v2).toNatClampNeg) + v3) → vp_in v1 n_t_weights ∧ vp_in v2 n_t_weights ∧ (((t_weights (v2).toNatClampNeg) + v3) ≤ (t_weights (v1).toNatClampNeg) → post (0 : Int32)) ∧ (¬ ((t_weights (v2).toNatClampNeg) + v3) ≤ (t_weights (v1).toNatClampNeg) → post (1 : Int32)))
theorem kX4_isAhead_0 : Cond.fieldLink RX4 9 "KnapsackCore$Sets" "weights" "[I" ∈ wsX4_isAhead := (List.mem_cons_of_mem _ (List.mem_append_left _ (List.mem_of_getElem? (i := 0) rfl)))
theorem kX4_isAhead_1 : Cond.fieldLink RX4 13 "KnapsackCore$Sets" "profits" "[I" ∈ wsX4_isAhead := (List.mem_cons_of_mem _ (List.mem_append_left _ (List.mem_of_getElem? (i := 1) rfl)))
theorem kX4_isAhead_2 : Cond.fieldLink RX4 16 "KnapsackCore$Sets" "bits" "[J" ∈ wsX4_isAhead := (List.mem_cons_of_mem _ (List.mem_append_left _ (List.mem_of_getElem? (i := 2) rfl)))
theorem iX4_isAhead_X4 : ∀ w ∈ u_ws RX4 TX4 4, w ∈ wsX4_isAhead := fun w h => (List.mem_cons_of_mem _ (List.mem_append_right _ h))
set_option maxHeartbeats 4000000 in
set_option maxRecDepth 100000 in
theorem mtX4_isAhead (l : Launch) (ad : (Nat → Nat) × (Nat → Nat)) (dC : Nat → ClassId) (dI : Nat → Nat → Nat) (cy : Nat → ClassId) (a_t a_t_weights a_t_profits a_t_bits : Nat) (sz : Nat) (t_size : Int32) (t_weights : Nat → Int32) (n_t_weights : Nat) (t_profits : Nat → Int32) (n_t_profits : Nat) (t_bits : Nat → Int64) (n_t_bits : Nat) (v1 v2 v3 v4 : Int32) (v5 : Int64) {post : Int32 → Prop} (h : wX4_isAhead t_weights n_t_weights t_profits n_t_profits t_bits n_t_bits post v1 v2 v3 v4 v5) : xMi l yX4_isAhead wsX4_isAhead ({ frames := 0, cells := 0, slots := 0, locals := 0 } : Room) ad (dC, dI) vwCl (xT cy) [.ref a_t, .int v1, .int v2, .int v3, .int v4, .long v5] [(a_t, .inr (4, [.ref a_t_weights, .ref a_t_profits, .ref a_t_bits, .int t_size])), (a_t_weights, .inl (cy 0, n_t_weights, .inl t_weights)), (a_t_profits, .inl (cy 0, n_t_profits, .inl t_profits)), (a_t_bits, .inl (cy 1, n_t_bits, .inr (.inl t_bits)))] sz (fun (r : Int32) (_ : Unit) => post r) (fun (_ : Unit) w => w = [(a_t, .inr (4, [.ref a_t_weights, .ref a_t_profits, .ref a_t_bits, .int t_size])), (a_t_weights, .inl (cy 0, n_t_weights, .inl t_weights)), (a_t_profits, .inl (cy 0, n_t_profits, .inl t_profits)), (a_t_bits, .inl (cy 1, n_t_bits, .inr (.inl t_bits)))]) 0 0 := by
  unfold xMi
  refine Met.ofW (cc := cX4_isAhead) (maxL := 7) (ret := (some .boolean)) (by decide +kernel) rfl ?_
  intro p e s m args below meth c s₁ B hml hv
  obtain ⟨rfl, hsz, hP, hK, hD0, hE⟩ := hv
  have hx := B.exec
  have hb := B.bytes
  have hr := B.returns
  have hts := atoms_spec (ws := wsX4_isAhead) B.pre
  have hown : s.vm.findClass RX4 = some m.cls := findClass_of_methodNamed B.named
  have hlocks := B.notSynchronized
  subst hsz
  have hD := hD0.self (sz := s.heap.size)
  generalize hAe : va_A [(a_t, .inr (4, [.ref a_t_weights, .ref a_t_profits, .ref a_t_bits, .int t_size])), (a_t_weights, .inl (cy 0, n_t_weights, .inl t_weights)), (a_t_profits, .inl (cy 0, n_t_profits, .inl t_profits)), (a_t_bits, .inl (cy 1, n_t_bits, .inr (.inl t_bits)))] s.heap.size = A at hD hE ⊢
  have hA : ∀ q : Nat, s.heap.size ≤ q → A q := fun q h => by rw [← hAe]; exact Or.inr h
  have hS : va_S A s.heap s.heap [] := va_S.rf
  have hl := lv_entry ([.ref a_t, .int v1, .int v2, .int v3, .int v4, .long v5]) (n := 7) (Nat.le_of_ble_eq_true rfl)
  rw [lg_entry_eq]
  generalize (lg_sl ([.ref a_t, .int v1, .int v2, .int v3, .int v4, .long v5]) ++ List.replicate (7 - (lg_sl ([.ref a_t, .int v1, .int v2, .int v3, .int v4, .long v5])).length) Slot.unset).toArray = ls at hl ⊢
  have hl : lv_has ls 7 [(0, .ref a_t), (1, .int v1), (2, .int v2), (3, .int v3), (4, .int v4), (5, .long v5)] := hl
  generalize hQ : MQ below _ _ s _ _ _ = Q
  generalize ([.ref a_t, .int v1, .int v2, .int v3, .int v4, .long v5] : List Value).toArray = args at hts hQ ⊢
  clear B hD0 hAe
  refine lv_aload_n hx hb dX4_isAhead_0 rfl (lv_at hl 0 rfl) ?_
  refine va_get (D := (dC, dI)) (ci := 4) (v := .ref a_t_weights) (C := RX4) (T := TX4) (N := 4) hx hb hts iX4_isAhead_X4 hown hK hP 0 rfl rfl 0 (Nat.le_of_ble_eq_true rfl) (hts _ kX4_isAhead_0) (fun _ h9 => h9) rfl dX4_isAhead_1 ?_
  refine lv_iload_n hx hb dX4_isAhead_4 rfl (lv_at hl 1 rfl) ?_
  refine va_iald (D := (dC, dI)) hx hb hK hP 1 0 rfl rfl h.1 dX4_isAhead_5 ?_
  replace h := h.2
  refine lv_aload_n hx hb dX4_isAhead_6 rfl (lv_at hl 0 rfl) ?_
  refine va_get (D := (dC, dI)) (ci := 4) (v := .ref a_t_weights) (C := RX4) (T := TX4) (N := 4) hx hb hts iX4_isAhead_X4 hown hK hP 0 rfl rfl 0 (Nat.le_of_ble_eq_true rfl) (hts _ kX4_isAhead_0) (fun _ h9 => h9) rfl dX4_isAhead_7 ?_
  refine lv_iload_n hx hb dX4_isAhead_10 rfl (lv_at hl 2 rfl) ?_
  refine va_iald (D := (dC, dI)) hx hb hK hP 1 0 rfl rfl h.1 dX4_isAhead_11 ?_
  replace h := h.2
  refine lv_iload_n hx hb dX4_isAhead_12 rfl (lv_at hl 3 rfl) ?_
  refine lv_iadd hx hb dX4_isAhead_13 ?_
  refine lv_icmp_eq (tgt := 40) hx hb dX4_isAhead_14 (by decide) (fun c_1 => ?_) (fun c_1 => ?_)
  · replace h := h.1 c_1
    refine lv_aload_n hx hb dX4_isAhead_40 rfl (lv_at hl 0 rfl) ?_
    refine va_get (D := (dC, dI)) (ci := 4) (v := .ref a_t_profits) (C := RX4) (T := TX4) (N := 4) hx hb hts iX4_isAhead_X4 hown hK hP 0 rfl rfl 1 (Nat.le_of_ble_eq_true rfl) (hts _ kX4_isAhead_1) (fun _ h9 => h9) rfl dX4_isAhead_41 ?_
    refine lv_iload_n hx hb dX4_isAhead_44 rfl (lv_at hl 1 rfl) ?_
    refine va_iald (D := (dC, dI)) hx hb hK hP 2 0 rfl rfl h.1 dX4_isAhead_45 ?_
    replace h := h.2
    refine lv_aload_n hx hb dX4_isAhead_46 rfl (lv_at hl 0 rfl) ?_
    refine va_get (D := (dC, dI)) (ci := 4) (v := .ref a_t_profits) (C := RX4) (T := TX4) (N := 4) hx hb hts iX4_isAhead_X4 hown hK hP 0 rfl rfl 1 (Nat.le_of_ble_eq_true rfl) (hts _ kX4_isAhead_1) (fun _ h9 => h9) rfl dX4_isAhead_47 ?_
    refine lv_iload_n hx hb dX4_isAhead_50 rfl (lv_at hl 2 rfl) ?_
    refine va_iald (D := (dC, dI)) hx hb hK hP 2 0 rfl rfl h.1 dX4_isAhead_51 ?_
    replace h := h.2
    refine lv_iload hx hb dX4_isAhead_52 (lv_at hl 4 rfl) ?_
    refine lv_iadd hx hb dX4_isAhead_54 ?_
    refine lv_icmp_eq (tgt := 82) hx hb dX4_isAhead_55 (by decide) (fun c_2 => ?_) (fun c_2 => ?_)
    · replace h := h.1 c_2
      refine lv_aload_n hx hb dX4_isAhead_82 rfl (lv_at hl 0 rfl) ?_
      refine va_get (D := (dC, dI)) (ci := 4) (v := .ref a_t_bits) (C := RX4) (T := TX4) (N := 4) hx hb hts iX4_isAhead_X4 hown hK hP 0 rfl rfl 2 (Nat.le_of_ble_eq_true rfl) (hts _ kX4_isAhead_2) (fun _ h9 => h9) rfl dX4_isAhead_83 ?_
      refine lv_iload_n hx hb dX4_isAhead_86 rfl (lv_at hl 1 rfl) ?_
      refine va_lald (D := (dC, dI)) hx hb hK hP 3 1 rfl rfl h.1 dX4_isAhead_87 ?_
      replace h := h.2
      refine lv_aload_n hx hb dX4_isAhead_88 rfl (lv_at hl 0 rfl) ?_
      refine va_get (D := (dC, dI)) (ci := 4) (v := .ref a_t_bits) (C := RX4) (T := TX4) (N := 4) hx hb hts iX4_isAhead_X4 hown hK hP 0 rfl rfl 2 (Nat.le_of_ble_eq_true rfl) (hts _ kX4_isAhead_2) (fun _ h9 => h9) rfl dX4_isAhead_89 ?_
      refine lv_iload_n hx hb dX4_isAhead_92 rfl (lv_at hl 2 rfl) ?_
      refine va_lald (D := (dC, dI)) hx hb hK hP 3 1 rfl rfl h.1 dX4_isAhead_93 ?_
      replace h := h.2
      refine lv_lload hx hb dX4_isAhead_94 (lv_at hl 5 rfl) ?_
      refine lv_ladd hx hb dX4_isAhead_96 ?_
      refine W.lcmp hx hb dX4_isAhead_97 ?_
      refine lv_if_ge (tgt := 105) hx hb dX4_isAhead_98 (by decide) (fun c_3 => ?_) (fun c_3 => ?_)
      · replace h := h.1 ((lg_cmp_ge _ _).mp c_3)
        refine lv_iconst (v := 0) hx hb dX4_isAhead_105 (by decide) ?_
        rw [← hQ]
        exact W.zret (v := (0 : Int32)) hx hb hr rfl (fun t ht hW => ⟨⟨(0 : Int32), (), rfl, h, x_end (w1 := [(a_t, .inr (4, [.ref a_t_weights, .ref a_t_profits, .ref a_t_bits, .int t_size])), (a_t_weights, .inl (cy 0, n_t_weights, .inl t_weights)), (a_t_profits, .inl (cy 0, n_t_profits, .inl t_profits)), (a_t_bits, .inl (cy 1, n_t_bits, .inr (.inl t_bits)))]) hP hD hK [0, 1, 2, 3] rfl (by decide) rfl ht hW⟩, hS.F ht⟩) hS.2.2 dX4_isAhead_106
      · replace h := h.2 (fun z9 => c_3 ((lg_cmp_ge _ _).mpr z9))
        refine lv_iconst (v := 1) hx hb dX4_isAhead_101 (by decide) ?_
        refine lv_goto (tgt := 106) hx hb dX4_isAhead_102 (by decide) ?_
        rw [← hQ]
        exact W.zret (v := (1 : Int32)) hx hb hr rfl (fun t ht hW => ⟨⟨(1 : Int32), (), rfl, h, x_end (w1 := [(a_t, .inr (4, [.ref a_t_weights, .ref a_t_profits, .ref a_t_bits, .int t_size])), (a_t_weights, .inl (cy 0, n_t_weights, .inl t_weights)), (a_t_profits, .inl (cy 0, n_t_profits, .inl t_profits)), (a_t_bits, .inl (cy 1, n_t_bits, .inr (.inl t_bits)))]) hP hD hK [0, 1, 2, 3] rfl (by decide) rfl ht hW⟩, hS.F ht⟩) hS.2.2 dX4_isAhead_106
    · replace h := h.2 c_2
      refine lv_aload_n hx hb dX4_isAhead_58 rfl (lv_at hl 0 rfl) ?_
      refine va_get (D := (dC, dI)) (ci := 4) (v := .ref a_t_profits) (C := RX4) (T := TX4) (N := 4) hx hb hts iX4_isAhead_X4 hown hK hP 0 rfl rfl 1 (Nat.le_of_ble_eq_true rfl) (hts _ kX4_isAhead_1) (fun _ h9 => h9) rfl dX4_isAhead_59 ?_
      refine lv_iload_n hx hb dX4_isAhead_62 rfl (lv_at hl 1 rfl) ?_
      refine va_iald (D := (dC, dI)) hx hb hK hP 2 0 rfl rfl h.1 dX4_isAhead_63 ?_
      replace h := h.2
      refine lv_aload_n hx hb dX4_isAhead_64 rfl (lv_at hl 0 rfl) ?_
      refine va_get (D := (dC, dI)) (ci := 4) (v := .ref a_t_profits) (C := RX4) (T := TX4) (N := 4) hx hb hts iX4_isAhead_X4 hown hK hP 0 rfl rfl 1 (Nat.le_of_ble_eq_true rfl) (hts _ kX4_isAhead_1) (fun _ h9 => h9) rfl dX4_isAhead_65 ?_
      refine lv_iload_n hx hb dX4_isAhead_68 rfl (lv_at hl 2 rfl) ?_
      refine va_iald (D := (dC, dI)) hx hb hK hP 2 0 rfl rfl h.1 dX4_isAhead_69 ?_
      replace h := h.2
      refine lv_iload hx hb dX4_isAhead_70 (lv_at hl 4 rfl) ?_
      refine lv_iadd hx hb dX4_isAhead_72 ?_
      refine lv_icmp_le (tgt := 80) hx hb dX4_isAhead_73 (by decide) (fun c_4 => ?_) (fun c_4 => ?_)
      · replace h := h.1 c_4
        refine lv_iconst (v := 0) hx hb dX4_isAhead_80 (by decide) ?_
        rw [← hQ]
        exact W.zret (v := (0 : Int32)) hx hb hr rfl (fun t ht hW => ⟨⟨(0 : Int32), (), rfl, h, x_end (w1 := [(a_t, .inr (4, [.ref a_t_weights, .ref a_t_profits, .ref a_t_bits, .int t_size])), (a_t_weights, .inl (cy 0, n_t_weights, .inl t_weights)), (a_t_profits, .inl (cy 0, n_t_profits, .inl t_profits)), (a_t_bits, .inl (cy 1, n_t_bits, .inr (.inl t_bits)))]) hP hD hK [0, 1, 2, 3] rfl (by decide) rfl ht hW⟩, hS.F ht⟩) hS.2.2 dX4_isAhead_81
      · replace h := h.2 c_4
        refine lv_iconst (v := 1) hx hb dX4_isAhead_76 (by decide) ?_
        refine lv_goto (tgt := 81) hx hb dX4_isAhead_77 (by decide) ?_
        rw [← hQ]
        exact W.zret (v := (1 : Int32)) hx hb hr rfl (fun t ht hW => ⟨⟨(1 : Int32), (), rfl, h, x_end (w1 := [(a_t, .inr (4, [.ref a_t_weights, .ref a_t_profits, .ref a_t_bits, .int t_size])), (a_t_weights, .inl (cy 0, n_t_weights, .inl t_weights)), (a_t_profits, .inl (cy 0, n_t_profits, .inl t_profits)), (a_t_bits, .inl (cy 1, n_t_bits, .inr (.inl t_bits)))]) hP hD hK [0, 1, 2, 3] rfl (by decide) rfl ht hW⟩, hS.F ht⟩) hS.2.2 dX4_isAhead_81
  · replace h := h.2 c_1
    refine lv_aload_n hx hb dX4_isAhead_17 rfl (lv_at hl 0 rfl) ?_
    refine va_get (D := (dC, dI)) (ci := 4) (v := .ref a_t_weights) (C := RX4) (T := TX4) (N := 4) hx hb hts iX4_isAhead_X4 hown hK hP 0 rfl rfl 0 (Nat.le_of_ble_eq_true rfl) (hts _ kX4_isAhead_0) (fun _ h9 => h9) rfl dX4_isAhead_18 ?_
    refine lv_iload_n hx hb dX4_isAhead_21 rfl (lv_at hl 1 rfl) ?_
    refine va_iald (D := (dC, dI)) hx hb hK hP 1 0 rfl rfl h.1 dX4_isAhead_22 ?_
    replace h := h.2
    refine lv_aload_n hx hb dX4_isAhead_23 rfl (lv_at hl 0 rfl) ?_
    refine va_get (D := (dC, dI)) (ci := 4) (v := .ref a_t_weights) (C := RX4) (T := TX4) (N := 4) hx hb hts iX4_isAhead_X4 hown hK hP 0 rfl rfl 0 (Nat.le_of_ble_eq_true rfl) (hts _ kX4_isAhead_0) (fun _ h9 => h9) rfl dX4_isAhead_24 ?_
    refine lv_iload_n hx hb dX4_isAhead_27 rfl (lv_at hl 2 rfl) ?_
    refine va_iald (D := (dC, dI)) hx hb hK hP 1 0 rfl rfl h.1 dX4_isAhead_28 ?_
    replace h := h.2
    refine lv_iload_n hx hb dX4_isAhead_29 rfl (lv_at hl 3 rfl) ?_
    refine lv_iadd hx hb dX4_isAhead_30 ?_
    refine lv_icmp_ge (tgt := 38) hx hb dX4_isAhead_31 (by decide) (fun c_5 => ?_) (fun c_5 => ?_)
    · replace h := h.1 c_5
      refine lv_iconst (v := 0) hx hb dX4_isAhead_38 (by decide) ?_
      rw [← hQ]
      exact W.zret (v := (0 : Int32)) hx hb hr rfl (fun t ht hW => ⟨⟨(0 : Int32), (), rfl, h, x_end (w1 := [(a_t, .inr (4, [.ref a_t_weights, .ref a_t_profits, .ref a_t_bits, .int t_size])), (a_t_weights, .inl (cy 0, n_t_weights, .inl t_weights)), (a_t_profits, .inl (cy 0, n_t_profits, .inl t_profits)), (a_t_bits, .inl (cy 1, n_t_bits, .inr (.inl t_bits)))]) hP hD hK [0, 1, 2, 3] rfl (by decide) rfl ht hW⟩, hS.F ht⟩) hS.2.2 dX4_isAhead_39
    · replace h := h.2 c_5
      refine lv_iconst (v := 1) hx hb dX4_isAhead_34 (by decide) ?_
      refine lv_goto (tgt := 39) hx hb dX4_isAhead_35 (by decide) ?_
      rw [← hQ]
      exact W.zret (v := (1 : Int32)) hx hb hr rfl (fun t ht hW => ⟨⟨(1 : Int32), (), rfl, h, x_end (w1 := [(a_t, .inr (4, [.ref a_t_weights, .ref a_t_profits, .ref a_t_bits, .int t_size])), (a_t_weights, .inl (cy 0, n_t_weights, .inl t_weights)), (a_t_profits, .inl (cy 0, n_t_profits, .inl t_profits)), (a_t_bits, .inl (cy 1, n_t_bits, .inr (.inl t_bits)))]) hP hD hK [0, 1, 2, 3] rfl (by decide) rfl ht hW⟩, hS.F ht⟩) hS.2.2 dX4_isAhead_39

/-- KnapsackCore$Sets.isSteeper(IIII)Z -/
def wX4_isSteeper (t_profits : Nat → Int32) (n_t_profits : Nat) (t_weights : Nat → Int32) (n_t_weights : Nat) (post : Int32 → Prop) (v1 v2 v3 v4 : Int32) : Prop :=
  vp_in v2 n_t_profits ∧ vp_in v1 n_t_profits ∧ vp_in v2 n_t_weights ∧ vp_in v1 n_t_weights ∧ vp_in v4 n_t_profits ∧ vp_in v3 n_t_profits ∧ vp_in v4 n_t_weights ∧ vp_in v3 n_t_weights ∧ (((((t_profits (v2).toNatClampNeg)).toInt64 - ((t_profits (v1).toNatClampNeg)).toInt64) * (((t_weights (v4).toNatClampNeg)).toInt64 - ((t_weights (v3).toNatClampNeg)).toInt64)) ≤ ((((t_profits (v4).toNatClampNeg)).toInt64 - ((t_profits (v3).toNatClampNeg)).toInt64) * (((t_weights (v2).toNatClampNeg)).toInt64 - ((t_weights (v1).toNatClampNeg)).toInt64)) → post (0 : Int32)) ∧ (¬ ((((t_profits (v2).toNatClampNeg)).toInt64 - ((t_profits (v1).toNatClampNeg)).toInt64) * (((t_weights (v4).toNatClampNeg)).toInt64 - ((t_weights (v3).toNatClampNeg)).toInt64)) ≤ ((((t_profits (v4).toNatClampNeg)).toInt64 - ((t_profits (v3).toNatClampNeg)).toInt64) * (((t_weights (v2).toNatClampNeg)).toInt64 - ((t_weights (v1).toNatClampNeg)).toInt64)) → post (1 : Int32))
theorem kX4_isSteeper_0 : Cond.fieldLink RX4 13 "KnapsackCore$Sets" "profits" "[I" ∈ wsX4_isSteeper := (List.mem_cons_of_mem _ (List.mem_append_left _ (List.mem_of_getElem? (i := 0) rfl)))
theorem kX4_isSteeper_1 : Cond.fieldLink RX4 9 "KnapsackCore$Sets" "weights" "[I" ∈ wsX4_isSteeper := (List.mem_cons_of_mem _ (List.mem_append_left _ (List.mem_of_getElem? (i := 1) rfl)))
theorem iX4_isSteeper_X4 : ∀ w ∈ u_ws RX4 TX4 4, w ∈ wsX4_isSteeper := fun w h => (List.mem_cons_of_mem _ (List.mem_append_right _ h))
set_option maxHeartbeats 4000000 in
set_option maxRecDepth 100000 in
theorem mtX4_isSteeper (l : Launch) (ad : (Nat → Nat) × (Nat → Nat)) (dC : Nat → ClassId) (dI : Nat → Nat → Nat) (cy : Nat → ClassId) (a_t a_t_weights a_t_profits a_t_bits : Nat) (sz : Nat) (t_size : Int32) (t_profits : Nat → Int32) (n_t_profits : Nat) (t_weights : Nat → Int32) (n_t_weights : Nat) (v1 v2 v3 v4 : Int32) {post : Int32 → Prop} (h : wX4_isSteeper t_profits n_t_profits t_weights n_t_weights post v1 v2 v3 v4) : xMi l yX4_isSteeper wsX4_isSteeper ({ frames := 0, cells := 0, slots := 0, locals := 0 } : Room) ad (dC, dI) vwCl (xT cy) [.ref a_t, .int v1, .int v2, .int v3, .int v4] [(a_t, .inr (4, [.ref a_t_weights, .ref a_t_profits, .ref a_t_bits, .int t_size])), (a_t_profits, .inl (cy 0, n_t_profits, .inl t_profits)), (a_t_weights, .inl (cy 0, n_t_weights, .inl t_weights))] sz (fun (r : Int32) (_ : Unit) => post r) (fun (_ : Unit) w => w = [(a_t, .inr (4, [.ref a_t_weights, .ref a_t_profits, .ref a_t_bits, .int t_size])), (a_t_profits, .inl (cy 0, n_t_profits, .inl t_profits)), (a_t_weights, .inl (cy 0, n_t_weights, .inl t_weights))]) 0 0 := by
  unfold xMi
  refine Met.ofW (cc := cX4_isSteeper) (maxL := 13) (ret := (some .boolean)) (by decide +kernel) rfl ?_
  intro p e s m args below meth c s₁ B hml hv
  obtain ⟨rfl, hsz, hP, hK, hD0, hE⟩ := hv
  have hx := B.exec
  have hb := B.bytes
  have hr := B.returns
  have hts := atoms_spec (ws := wsX4_isSteeper) B.pre
  have hown : s.vm.findClass RX4 = some m.cls := findClass_of_methodNamed B.named
  have hlocks := B.notSynchronized
  subst hsz
  have hD := hD0.self (sz := s.heap.size)
  generalize hAe : va_A [(a_t, .inr (4, [.ref a_t_weights, .ref a_t_profits, .ref a_t_bits, .int t_size])), (a_t_profits, .inl (cy 0, n_t_profits, .inl t_profits)), (a_t_weights, .inl (cy 0, n_t_weights, .inl t_weights))] s.heap.size = A at hD hE ⊢
  have hA : ∀ q : Nat, s.heap.size ≤ q → A q := fun q h => by rw [← hAe]; exact Or.inr h
  have hS : va_S A s.heap s.heap [] := va_S.rf
  have hl := lv_entry ([.ref a_t, .int v1, .int v2, .int v3, .int v4]) (n := 13) (Nat.le_of_ble_eq_true rfl)
  rw [lg_entry_eq]
  generalize (lg_sl ([.ref a_t, .int v1, .int v2, .int v3, .int v4]) ++ List.replicate (13 - (lg_sl ([.ref a_t, .int v1, .int v2, .int v3, .int v4])).length) Slot.unset).toArray = ls at hl ⊢
  have hl : lv_has ls 13 [(0, .ref a_t), (1, .int v1), (2, .int v2), (3, .int v3), (4, .int v4)] := hl
  generalize hQ : MQ below _ _ s _ _ _ = Q
  generalize ([.ref a_t, .int v1, .int v2, .int v3, .int v4] : List Value).toArray = args at hts hQ ⊢
  clear B hD0 hAe
  refine lv_aload_n hx hb dX4_isSteeper_0 rfl (lv_at hl 0 rfl) ?_
  refine va_get (D := (dC, dI)) (ci := 4) (v := .ref a_t_profits) (C := RX4) (T := TX4) (N := 4) hx hb hts iX4_isSteeper_X4 hown hK hP 0 rfl rfl 1 (Nat.le_of_ble_eq_true rfl) (hts _ kX4_isSteeper_0) (fun _ h9 => h9) rfl dX4_isSteeper_1 ?_
  refine lv_iload_n hx hb dX4_isSteeper_4 rfl (lv_at hl 2 rfl) ?_
  refine va_iald (D := (dC, dI)) hx hb hK hP 1 0 rfl rfl h.1 dX4_isSteeper_5 ?_
  replace h := h.2
  refine lv_i2l hx hb dX4_isSteeper_6 rfl ?_
  refine lv_aload_n hx hb dX4_isSteeper_7 rfl (lv_at hl 0 rfl) ?_
  refine va_get (D := (dC, dI)) (ci := 4) (v := .ref a_t_profits) (C := RX4) (T := TX4) (N := 4) hx hb hts iX4_isSteeper_X4 hown hK hP 0 rfl rfl 1 (Nat.le_of_ble_eq_true rfl) (hts _ kX4_isSteeper_0) (fun _ h9 => h9) rfl dX4_isSteeper_8 ?_
  refine lv_iload_n hx hb dX4_isSteeper_11 rfl (lv_at hl 1 rfl) ?_
  refine va_iald (D := (dC, dI)) hx hb hK hP 1 0 rfl rfl h.1 dX4_isSteeper_12 ?_
  replace h := h.2
  refine lv_i2l hx hb dX4_isSteeper_13 rfl ?_
  refine lv_lsub hx hb dX4_isSteeper_14 ?_
  refine lv_lstore (lv' := [(5, .long (((t_profits (v2).toNatClampNeg)).toInt64 - ((t_profits (v1).toNatClampNeg)).toInt64)), (0, .ref a_t), (1, .int v1), (2, .int v2), (3, .int v3), (4, .int v4)]) hx hb dX4_isSteeper_15 hl (by decide) rfl (fun ls hl => ?_)
  refine lv_aload_n hx hb dX4_isSteeper_17 rfl (lv_at hl 1 rfl) ?_
  refine va_get (D := (dC, dI)) (ci := 4) (v := .ref a_t_weights) (C := RX4) (T := TX4) (N := 4) hx hb hts iX4_isSteeper_X4 hown hK hP 0 rfl rfl 0 (Nat.le_of_ble_eq_true rfl) (hts _ kX4_isSteeper_1) (fun _ h9 => h9) rfl dX4_isSteeper_18 ?_
  refine lv_iload_n hx hb dX4_isSteeper_21 rfl (lv_at hl 3 rfl) ?_
  refine va_iald (D := (dC, dI)) hx hb hK hP 2 0 rfl rfl h.1 dX4_isSteeper_22 ?_
  replace h := h.2
  refine lv_i2l hx hb dX4_isSteeper_23 rfl ?_
  refine lv_aload_n hx hb dX4_isSteeper_24 rfl (lv_at hl 1 rfl) ?_
  refine va_get (D := (dC, dI)) (ci := 4) (v := .ref a_t_weights) (C := RX4) (T := TX4) (N := 4) hx hb hts iX4_isSteeper_X4 hown hK hP 0 rfl rfl 0 (Nat.le_of_ble_eq_true rfl) (hts _ kX4_isSteeper_1) (fun _ h9 => h9) rfl dX4_isSteeper_25 ?_
  refine lv_iload_n hx hb dX4_isSteeper_28 rfl (lv_at hl 2 rfl) ?_
  refine va_iald (D := (dC, dI)) hx hb hK hP 2 0 rfl rfl h.1 dX4_isSteeper_29 ?_
  replace h := h.2
  refine lv_i2l hx hb dX4_isSteeper_30 rfl ?_
  refine lv_lsub hx hb dX4_isSteeper_31 ?_
  refine lv_lstore (lv' := [(7, .long (((t_weights (v2).toNatClampNeg)).toInt64 - ((t_weights (v1).toNatClampNeg)).toInt64)), (5, .long (((t_profits (v2).toNatClampNeg)).toInt64 - ((t_profits (v1).toNatClampNeg)).toInt64)), (0, .ref a_t), (1, .int v1), (2, .int v2), (3, .int v3), (4, .int v4)]) hx hb dX4_isSteeper_32 hl (by decide) rfl (fun ls hl => ?_)
  refine lv_aload_n hx hb dX4_isSteeper_34 rfl (lv_at hl 2 rfl) ?_
  refine va_get (D := (dC, dI)) (ci := 4) (v := .ref a_t_profits) (C := RX4) (T := TX4) (N := 4) hx hb hts iX4_isSteeper_X4 hown hK hP 0 rfl rfl 1 (Nat.le_of_ble_eq_true rfl) (hts _ kX4_isSteeper_0) (fun _ h9 => h9) rfl dX4_isSteeper_35 ?_
  refine lv_iload hx hb dX4_isSteeper_38 (lv_at hl 6 rfl) ?_
  refine va_iald (D := (dC, dI)) hx hb hK hP 1 0 rfl rfl h.1 dX4_isSteeper_40 ?_
  replace h := h.2
  refine lv_i2l hx hb dX4_isSteeper_41 rfl ?_
  refine lv_aload_n hx hb dX4_isSteeper_42 rfl (lv_at hl 2 rfl) ?_
  refine va_get (D := (dC, dI)) (ci := 4) (v := .ref a_t_profits) (C := RX4) (T := TX4) (N := 4) hx hb hts iX4_isSteeper_X4 hown hK hP 0 rfl rfl 1 (Nat.le_of_ble_eq_true rfl) (hts _ kX4_isSteeper_0) (fun _ h9 => h9) rfl dX4_isSteeper_43 ?_
  refine lv_iload_n hx hb dX4_isSteeper_46 rfl (lv_at hl 5 rfl) ?_
  refine va_iald (D := (dC, dI)) hx hb hK hP 1 0 rfl rfl h.1 dX4_isSteeper_47 ?_
  replace h := h.2
  refine lv_i2l hx hb dX4_isSteeper_48 rfl ?_
  refine lv_lsub hx hb dX4_isSteeper_49 ?_
  refine lv_lstore (lv' := [(9, .long (((t_profits (v4).toNatClampNeg)).toInt64 - ((t_profits (v3).toNatClampNeg)).toInt64)), (7, .long (((t_weights (v2).toNatClampNeg)).toInt64 - ((t_weights (v1).toNatClampNeg)).toInt64)), (5, .long (((t_profits (v2).toNatClampNeg)).toInt64 - ((t_profits (v1).toNatClampNeg)).toInt64)), (0, .ref a_t), (1, .int v1), (2, .int v2), (3, .int v3), (4, .int v4)]) hx hb dX4_isSteeper_50 hl (by decide) rfl (fun ls hl => ?_)
  refine lv_aload_n hx hb dX4_isSteeper_52 rfl (lv_at hl 3 rfl) ?_
  refine va_get (D := (dC, dI)) (ci := 4) (v := .ref a_t_weights) (C := RX4) (T := TX4) (N := 4) hx hb hts iX4_isSteeper_X4 hown hK hP 0 rfl rfl 0 (Nat.le_of_ble_eq_true rfl) (hts _ kX4_isSteeper_1) (fun _ h9 => h9) rfl dX4_isSteeper_53 ?_
  refine lv_iload hx hb dX4_isSteeper_56 (lv_at hl 7 rfl) ?_
  refine va_iald (D := (dC, dI)) hx hb hK hP 2 0 rfl rfl h.1 dX4_isSteeper_58 ?_
  replace h := h.2
  refine lv_i2l hx hb dX4_isSteeper_59 rfl ?_
  refine lv_aload_n hx hb dX4_isSteeper_60 rfl (lv_at hl 3 rfl) ?_
  refine va_get (D := (dC, dI)) (ci := 4) (v := .ref a_t_weights) (C := RX4) (T := TX4) (N := 4) hx hb hts iX4_isSteeper_X4 hown hK hP 0 rfl rfl 0 (Nat.le_of_ble_eq_true rfl) (hts _ kX4_isSteeper_1) (fun _ h9 => h9) rfl dX4_isSteeper_61 ?_
  refine lv_iload_n hx hb dX4_isSteeper_64 rfl (lv_at hl 6 rfl) ?_
  refine va_iald (D := (dC, dI)) hx hb hK hP 2 0 rfl rfl h.1 dX4_isSteeper_65 ?_
  replace h := h.2
  refine lv_i2l hx hb dX4_isSteeper_66 rfl ?_
  refine lv_lsub hx hb dX4_isSteeper_67 ?_
  refine lv_lstore (lv' := [(11, .long (((t_weights (v4).toNatClampNeg)).toInt64 - ((t_weights (v3).toNatClampNeg)).toInt64)), (9, .long (((t_profits (v4).toNatClampNeg)).toInt64 - ((t_profits (v3).toNatClampNeg)).toInt64)), (7, .long (((t_weights (v2).toNatClampNeg)).toInt64 - ((t_weights (v1).toNatClampNeg)).toInt64)), (5, .long (((t_profits (v2).toNatClampNeg)).toInt64 - ((t_profits (v1).toNatClampNeg)).toInt64)), (0, .ref a_t), (1, .int v1), (2, .int v2), (3, .int v3), (4, .int v4)]) hx hb dX4_isSteeper_68 hl (by decide) rfl (fun ls hl => ?_)
  refine lv_lload hx hb dX4_isSteeper_70 (lv_at hl 3 rfl) ?_
  refine lv_lload hx hb dX4_isSteeper_72 (lv_at hl 0 rfl) ?_
  refine lv_lmul hx hb dX4_isSteeper_74 ?_
  refine lv_lload hx hb dX4_isSteeper_75 (lv_at hl 1 rfl) ?_
  refine lv_lload hx hb dX4_isSteeper_77 (lv_at hl 2 rfl) ?_
  refine lv_lmul hx hb dX4_isSteeper_79 ?_
  refine W.lcmp hx hb dX4_isSteeper_80 ?_
  refine lv_if_le (tgt := 88) hx hb dX4_isSteeper_81 (by decide) (fun c_1 => ?_) (fun c_1 => ?_)
  · replace h := h.1 ((lg_cmp_le _ _).mp c_1)
    refine lv_iconst (v := 0) hx hb dX4_isSteeper_88 (by decide) ?_
    rw [← hQ]
    exact W.zret (v := (0 : Int32)) hx hb hr rfl (fun t ht hW => ⟨⟨(0 : Int32), (), rfl, h, x_end (w1 := [(a_t, .inr (4, [.ref a_t_weights, .ref a_t_profits, .ref a_t_bits, .int t_size])), (a_t_profits, .inl (cy 0, n_t_profits, .inl t_profits)), (a_t_weights, .inl (cy 0, n_t_weights, .inl t_weights))]) hP hD hK [0, 1, 2] rfl (by decide) rfl ht hW⟩, hS.F ht⟩) hS.2.2 dX4_isSteeper_89
  · replace h := h.2 (fun z9 => c_1 ((lg_cmp_le _ _).mpr z9))
    refine lv_iconst (v := 1) hx hb dX4_isSteeper_84 (by decide) ?_
    refine lv_goto (tgt := 89) hx hb dX4_isSteeper_85 (by decide) ?_
    rw [← hQ]
    exact W.zret (v := (1 : Int32)) hx hb hr rfl (fun t ht hW => ⟨⟨(1 : Int32), (), rfl, h, x_end (w1 := [(a_t, .inr (4, [.ref a_t_weights, .ref a_t_profits, .ref a_t_bits, .int t_size])), (a_t_profits, .inl (cy 0, n_t_profits, .inl t_profits)), (a_t_weights, .inl (cy 0, n_t_weights, .inl t_weights))]) hP hD hK [0, 1, 2] rfl (by decide) rfl ht hW⟩, hS.F ht⟩) hS.2.2 dX4_isSteeper_89

theorem qX4_isSteeper : yX4_isSteeper.cls = RX4 ∧ yX4_isSteeper.cls ≠ "java/lang/invoke/MethodHandle" ∧ yX4_isSteeper.cls ≠ "java/lang/invoke/VarHandle" ∧ (parseMethodDescriptor yX4_isSteeper.desc).map (fun d => d.parameters.length) = some 4 := by decide +kernel
def wX4_isCorner_77 (t_size : Int32) (t_profits : Nat → Int32) (n_t_profits : Nat) (t_weights : Nat → Int32) (n_t_weights : Nat) (K53 : Int32 → Int32 → Int32 → Int32 → Prop) (post : Int32 → Prop) (v1 v2 v3 v4 : Int32) : Prop :=
  K53 v1 v2 v3 (v4 + (1 : Int32))
def wX4_isCorner_71 (t_size : Int32) (t_profits : Nat → Int32) (n_t_profits : Nat) (t_weights : Nat → Int32) (n_t_weights : Nat) (K53 : Int32 → Int32 → Int32 → Int32 → Prop) (post : Int32 → Prop) (v1 v2 v3 v4 k0 : Int32) : Prop :=
  (k0 = (0 : Int32) → wX4_isCorner_77 t_size t_profits n_t_profits t_weights n_t_weights K53 post v1 v2 v3 v4) ∧ (¬ k0 = (0 : Int32) → wX4_isCorner_77 t_size t_profits n_t_profits t_weights n_t_weights K53 post v1 v2 v4 v4)
def wX4_isCorner_53_b (t_size : Int32) (t_profits : Nat → Int32) (n_t_profits : Nat) (t_weights : Nat → Int32) (n_t_weights : Nat) (post : Int32 → Prop) (K53 : Int32 → Int32 → Int32 → Int32 → Prop) (v1 v2 v3 v4 : Int32) : Prop :=
  (t_size ≤ v4 → wX4_isSteeper t_profits n_t_profits t_weights n_t_weights (fun r88 => narrow .boolean (.int r88) = .int r88 ∧ post r88) v2 v1 v1 v3) ∧ (¬ t_size ≤ v4 → wX4_isSteeper t_profits n_t_profits t_weights n_t_weights (fun r68 => wX4_isCorner_71 t_size t_profits n_t_profits t_weights n_t_weights K53 post v1 v2 v3 v4 r68) v1 v4 v1 v3)
def wX4_isCorner_53 (t_size : Int32) (t_profits : Nat → Int32) (n_t_profits : Nat) (t_weights : Nat → Int32) (n_t_weights : Nat) (post : Int32 → Prop) : Nat → Int32 → Int32 → Int32 → Int32 → Prop
  | 0 => fun _ _ _ _ => False
  | n + 1 => wX4_isCorner_53_b t_size t_profits n_t_profits t_weights n_t_weights post (wX4_isCorner_53 t_size t_profits n_t_profits t_weights n_t_weights post n)
def wX4_isCorner_38 (t_size : Int32) (t_profits : Nat → Int32) (n_t_profits : Nat) (t_weights : Nat → Int32) (n_t_weights : Nat) (K20 : Int32 → Int32 → Int32 → Prop) (post : Int32 → Prop) (v1 v2 v3 : Int32) : Prop :=
  K20 v1 v2 (v3 + (1 : Int32))
def wX4_isCorner_33 (t_size : Int32) (t_profits : Nat → Int32) (n_t_profits : Nat) (t_weights : Nat → Int32) (n_t_weights : Nat) (K20 : Int32 → Int32 → Int32 → Prop) (post : Int32 → Prop) (v1 v2 v3 k0 : Int32) : Prop :=
  (k0 = (0 : Int32) → wX4_isCorner_38 t_size t_profits n_t_profits t_weights n_t_weights K20 post v1 v2 v3) ∧ (¬ k0 = (0 : Int32) → wX4_isCorner_38 t_size t_profits n_t_profits t_weights n_t_weights K20 post v1 v3 v3)
def wX4_isCorner_20_b (t_size : Int32) (t_profits : Nat → Int32) (n_t_profits : Nat) (t_weights : Nat → Int32) (n_t_weights : Nat) (post : Int32 → Prop) (K20 : Int32 → Int32 → Int32 → Prop) (v1 v2 v3 : Int32) : Prop :=
  (v1 ≤ v3 → ∃ n : Nat, wX4_isCorner_53 t_size t_profits n_t_profits t_weights n_t_weights post n v1 v2 (v1 + (1 : Int32)) (v1 + (2 : Int32))) ∧ (¬ v1 ≤ v3 → wX4_isSteeper t_profits n_t_profits t_weights n_t_weights (fun r30 => wX4_isCorner_33 t_size t_profits n_t_profits t_weights n_t_weights K20 post v1 v2 v3 r30) v2 v1 v3 v1)
def wX4_isCorner_20 (t_size : Int32) (t_profits : Nat → Int32) (n_t_profits : Nat) (t_weights : Nat → Int32) (n_t_weights : Nat) (post : Int32 → Prop) : Nat → Int32 → Int32 → Int32 → Prop
  | 0 => fun _ _ _ => False
  | n + 1 => wX4_isCorner_20_b t_size t_profits n_t_profits t_weights n_t_weights post (wX4_isCorner_20 t_size t_profits n_t_profits t_weights n_t_weights post n)
/-- KnapsackCore$Sets.isCorner(I)Z -/
def wX4_isCorner (t_size : Int32) (t_profits : Nat → Int32) (n_t_profits : Nat) (t_weights : Nat → Int32) (n_t_weights : Nat) (post : Int32 → Prop) (v1 : Int32) : Prop :=
  (v1 ≤ (0 : Int32) → post (1 : Int32)) ∧ (¬ v1 ≤ (0 : Int32) → (v1 < (t_size - (1 : Int32)) → ∃ n : Nat, wX4_isCorner_20 t_size t_profits n_t_profits t_weights n_t_weights post n v1 (0 : Int32) (1 : Int32)) ∧ (¬ v1 < (t_size - (1 : Int32)) → post (1 : Int32)))
theorem kX4_isCorner_0 : Cond.fieldLink RX4 20 "KnapsackCore$Sets" "size" "I" ∈ wsX4_isCorner := (List.mem_cons_of_mem _ (List.mem_append_left _ (List.mem_of_getElem? (i := 0) rfl)))
theorem iX4_isCorner_X4 : ∀ w ∈ u_ws RX4 TX4 4, w ∈ wsX4_isCorner := fun w h => (List.mem_cons_of_mem _ (List.mem_append_right _ h))
set_option maxHeartbeats 4000000 in
set_option maxRecDepth 100000 in
theorem mtX4_isCorner (l : Launch) (ad : (Nat → Nat) × (Nat → Nat)) (dC : Nat → ClassId) (dI : Nat → Nat → Nat) (cy : Nat → ClassId) (a_t a_t_weights a_t_profits a_t_bits : Nat) (sz : Nat) (t_size : Int32) (t_profits : Nat → Int32) (n_t_profits : Nat) (t_weights : Nat → Int32) (n_t_weights : Nat) (v1 : Int32) {post : Int32 → Prop} (h : wX4_isCorner t_size t_profits n_t_profits t_weights n_t_weights post v1) : xMi l yX4_isCorner wsX4_isCorner ({ frames := 1, cells := 0, slots := 0, locals := 32 } : Room) ad (dC, dI) vwCl (xT cy) [.ref a_t, .int v1] [(a_t, .inr (4, [.ref a_t_weights, .ref a_t_profits, .ref a_t_bits, .int t_size])), (a_t_profits, .inl (cy 0, n_t_profits, .inl t_profits)), (a_t_weights, .inl (cy 0, n_t_weights, .inl t_weights))] sz (fun (r : Int32) (_ : Unit) => post r) (fun (_ : Unit) w => w = [(a_t, .inr (4, [.ref a_t_weights, .ref a_t_profits, .ref a_t_bits, .int t_size])), (a_t_profits, .inl (cy 0, n_t_profits, .inl t_profits)), (a_t_weights, .inl (cy 0, n_t_weights, .inl t_weights))]) 0 0 := by
  unfold xMi
  refine Met.ofW (cc := cX4_isCorner) (maxL := 5) (ret := (some .boolean)) (by decide +kernel) rfl ?_
  intro p e s m args below meth c s₁ B hml hv
  obtain ⟨rfl, hsz, hP, hK, hD0, hE⟩ := hv
  have hx := B.exec
  have hb := B.bytes
  have hr := B.returns
  have hts := atoms_spec (ws := wsX4_isCorner) B.pre
  have hown : s.vm.findClass RX4 = some m.cls := findClass_of_methodNamed B.named
  have hlocks := B.notSynchronized
  subst hsz
  have hD := hD0.self (sz := s.heap.size)
  generalize hAe : va_A [(a_t, .inr (4, [.ref a_t_weights, .ref a_t_profits, .ref a_t_bits, .int t_size])), (a_t_profits, .inl (cy 0, n_t_profits, .inl t_profits)), (a_t_weights, .inl (cy 0, n_t_weights, .inl t_weights))] s.heap.size = A at hD hE ⊢
  have hA : ∀ q : Nat, s.heap.size ≤ q → A q := fun q h => by rw [← hAe]; exact Or.inr h
  have hS : va_S A s.heap s.heap [] := va_S.rf
  have hl := lv_entry ([.ref a_t, .int v1]) (n := 5) (Nat.le_of_ble_eq_true rfl)
  rw [lg_entry_eq]
  generalize (lg_sl ([.ref a_t, .int v1]) ++ List.replicate (5 - (lg_sl ([.ref a_t, .int v1])).length) Slot.unset).toArray = ls at hl ⊢
  have hl : lv_has ls 5 [(0, .ref a_t), (1, .int v1)] := hl
  generalize hQ : MQ below _ _ s _ _ _ = Q
  generalize ([.ref a_t, .int v1] : List Value).toArray = args at hts hQ ⊢
  clear B hD0 hAe
  have L53 : ∀ n : Nat, ∀ (v1 v2 v3 v4 : Int32), wX4_isCorner_53 t_size t_profits n_t_profits t_weights n_t_weights post n v1 v2 v3 v4 → ∀ (H : Heap) (locs : List Loc) (ls : Array Slot), va_P (dC, dI) vwCl [(a_t, .inr (4, [.ref a_t_weights, .ref a_t_profits, .ref a_t_bits, .int t_size])), (a_t_profits, .inl (cy 0, n_t_profits, .inl t_profits)), (a_t_weights, .inl (cy 0, n_t_weights, .inl t_weights))] H → va_D A [(a_t, .inr (4, [.ref a_t_weights, .ref a_t_profits, .ref a_t_bits, .int t_size])), (a_t_profits, .inl (cy 0, n_t_profits, .inl t_profits)), (a_t_weights, .inl (cy 0, n_t_weights, .inl t_weights))] → va_S A s.heap H locs → lv_has ls 5 [(0, .ref a_t), (1, .int v1), (2, .int v2), (3, .int v3), (4, .int v4)] → W p l e (headSpec wsX4_isCorner ({ frames := 1, cells := 0, slots := 0, locals := 32 } : Room)).room s m args below meth c H locs 0 0 Q (F0 m 53 ls []) := by
    intro n
    induction n with
    | zero => intro v1 v2 v3 v4 h; exact False.elim h
    | succ n53 ih53 =>
      have C77 : ∀ (v1 v2 v3 v4 : Int32), wX4_isCorner_77 t_size t_profits n_t_profits t_weights n_t_weights (wX4_isCorner_53 t_size t_profits n_t_profits t_weights n_t_weights post n53) post v1 v2 v3 v4 → ∀ (H : Heap) (locs : List Loc) (ls : Array Slot), va_P (dC, dI) vwCl [(a_t, .inr (4, [.ref a_t_weights, .ref a_t_profits, .ref a_t_bits, .int t_size])), (a_t_profits, .inl (cy 0, n_t_profits, .inl t_profits)), (a_t_weights, .inl (cy 0, n_t_weights, .inl t_weights))] H → va_D A [(a_t, .inr (4, [.ref a_t_weights, .ref a_t_profits, .ref a_t_bits, .int t_size])), (a_t_profits, .inl (cy 0, n_t_profits, .inl t_profits)), (a_t_weights, .inl (cy 0, n_t_weights, .inl t_weights))] → va_S A s.heap H locs → lv_has ls 5 [(0, .ref a_t), (1, .int v1), (2, .int v2), (3, .int v3), (4, .int v4)] → W p l e (headSpec wsX4_isCorner ({ frames := 1, cells := 0, slots := 0, locals := 32 } : Room)).room s m args below meth c H locs 0 0 Q (F0 m 77 ls []) := by
        intro v1 v2 v3 v4 h H locs ls hP hD hS hl
        refine lv_iinc (v := (v4 + (1 : Int32))) (lv' := [(4, .int (v4 + (1 : Int32))), (0, .ref a_t), (1, .int v1), (2, .int v2), (3, .int v3)]) hx hb dX4_isCorner_77 hl (k := 4) rfl rfl (by decide) rfl (fun ls hl => ?_)
        refine lv_goto (tgt := 53) hx hb dX4_isCorner_80 (by decide) ?_
        exact ih53 v1 v2 v3 (v4 + (1 : Int32)) h _ _ _ (x_sub hP [0, 1, 2] rfl) (hD.sub [0, 1, 2] (by decide) rfl) hS (lv_sub hl [1, 2, 3, 4, 0] rfl)
      intro v1 v2 v3 v4 h H locs ls hP hD hS hl
      replace h : wX4_isCorner_53_b t_size t_profits n_t_profits t_weights n_t_weights post (wX4_isCorner_53 t_size t_profits n_t_profits t_weights n_t_weights post n53) v1 v2 v3 v4 := h
      refine lv_iload hx hb dX4_isCorner_53 (lv_at hl 4 rfl) ?_
      refine lv_aload_n hx hb dX4_isCorner_55 rfl (lv_at hl 0 rfl) ?_
      refine va_get (D := (dC, dI)) (ci := 4) (v := .int t_size) (C := RX4) (T := TX4) (N := 4) hx hb hts iX4_isCorner_X4 hown hK hP 0 rfl rfl 3 (Nat.le_of_ble_eq_true rfl) (hts _ kX4_isCorner_0) (fun _ h9 => h9) rfl dX4_isCorner_56 ?_
      refine lv_icmp_ge (tgt := 83) hx hb dX4_isCorner_59 (by decide) (fun c_1 => ?_) (fun c_1 => ?_)
      · replace h := h.1 c_1
        refine lv_aload_n hx hb dX4_isCorner_83 rfl (lv_at hl 0 rfl) ?_
        refine lv_iload_n hx hb dX4_isCorner_84 rfl (lv_at hl 2 rfl) ?_
        refine lv_iload_n hx hb dX4_isCorner_85 rfl (lv_at hl 1 rfl) ?_
        refine lv_iload_n hx hb dX4_isCorner_86 rfl (lv_at hl 1 rfl) ?_
        refine lv_iload_n hx hb dX4_isCorner_87 rfl (lv_at hl 3 rfl) ?_
        refine xVi0 (As := [.int v2, .int v1, .int v1, .int v3]) (rest := []) ⟨hx, hb, hml, hown, hts⟩ (mtX4_isSteeper l ad dC dI cy a_t a_t_weights a_t_profits a_t_bits _ t_size t_profits n_t_profits t_weights n_t_weights v2 v1 v1 v3 h) (cwV 4 hts gX4_isCorner_X4_isSteeper rfl rfl rfl qX4_isSteeper ⟨Nat.le_of_ble_eq_true rfl, Nat.le_of_ble_eq_true rfl⟩) hE hK hP hD hS hA 4 0 rfl rfl rfl [0, 1, 2] rfl (by decide) rfl hl.1 rfl (Nat.le_of_ble_eq_true rfl) dX4_isCorner_88 ⟨Nat.le_refl _, Nat.le_refl _⟩ (fun r88 H locs h hP hS => ?_)
        try dsimp only at h
        rw [← hQ]
        exact W.zret (v := r88) hx hb hr h.1 (fun t ht hW => ⟨⟨r88, (), rfl, h.2, x_end (w1 := [(a_t, .inr (4, [.ref a_t_weights, .ref a_t_profits, .ref a_t_bits, .int t_size])), (a_t_profits, .inl (cy 0, n_t_profits, .inl t_profits)), (a_t_weights, .inl (cy 0, n_t_weights, .inl t_weights))]) hP hD hK [0, 1, 2] rfl (by decide) rfl ht hW⟩, hS.F ht⟩) hS.2.2 dX4_isCorner_91
      · replace h := h.2 c_1
        refine lv_aload_n hx hb dX4_isCorner_62 rfl (lv_at hl 0 rfl) ?_
        refine lv_iload_n hx hb dX4_isCorner_63 rfl (lv_at hl 1 rfl) ?_
        refine lv_iload hx hb dX4_isCorner_64 (lv_at hl 4 rfl) ?_
        refine lv_iload_n hx hb dX4_isCorner_66 rfl (lv_at hl 1 rfl) ?_
        refine lv_iload_n hx hb dX4_isCorner_67 rfl (lv_at hl 3 rfl) ?_
        refine xVi0 (As := [.int v1, .int v4, .int v1, .int v3]) (rest := []) ⟨hx, hb, hml, hown, hts⟩ (mtX4_isSteeper l ad dC dI cy a_t a_t_weights a_t_profits a_t_bits _ t_size t_profits n_t_profits t_weights n_t_weights v1 v4 v1 v3 h) (cwV 4 hts gX4_isCorner_X4_isSteeper rfl rfl rfl qX4_isSteeper ⟨Nat.le_of_ble_eq_true rfl, Nat.le_of_ble_eq_true rfl⟩) hE hK hP hD hS hA 4 0 rfl rfl rfl [0, 1, 2] rfl (by decide) rfl hl.1 rfl (Nat.le_of_ble_eq_true rfl) dX4_isCorner_68 ⟨Nat.le_refl _, Nat.le_refl _⟩ (fun r68 H locs h hP hS => ?_)
        try dsimp only at h
        refine lv_if_eq (tgt := 77) hx hb dX4_isCorner_71 (by decide) (fun c_2 => ?_) (fun c_2 => ?_)
        · replace h := h.1 c_2
          exact C77 v1 v2 v3 v4 h _ _ _ (x_sub hP [0, 1, 2] rfl) (hD.sub [0, 1, 2] (by decide) rfl) hS (lv_sub hl [0, 1, 2, 3, 4] rfl)
        · replace h := h.2 c_2
          refine lv_iload hx hb dX4_isCorner_74 (lv_at hl 4 rfl) ?_
          refine lv_istore_n (lv' := [(3, .int v4), (0, .ref a_t), (1, .int v1), (2, .int v2), (4, .int v4)]) hx hb dX4_isCorner_76 rfl hl (by decide) rfl (fun ls hl => ?_)
          exact C77 v1 v2 v4 v4 h _ _ _ (x_sub hP [0, 1, 2] rfl) (hD.sub [0, 1, 2] (by decide) rfl) hS (lv_sub hl [1, 2, 3, 0, 4] rfl)
  have L20 : ∀ n : Nat, ∀ (v1 v2 v3 : Int32), wX4_isCorner_20 t_size t_profits n_t_profits t_weights n_t_weights post n v1 v2 v3 → ∀ (H : Heap) (locs : List Loc) (ls : Array Slot), va_P (dC, dI) vwCl [(a_t, .inr (4, [.ref a_t_weights, .ref a_t_profits, .ref a_t_bits, .int t_size])), (a_t_profits, .inl (cy 0, n_t_profits, .inl t_profits)), (a_t_weights, .inl (cy 0, n_t_weights, .inl t_weights))] H → va_D A [(a_t, .inr (4, [.ref a_t_weights, .ref a_t_profits, .ref a_t_bits, .int t_size])), (a_t_profits, .inl (cy 0, n_t_profits, .inl t_profits)), (a_t_weights, .inl (cy 0, n_t_weights, .inl t_weights))] → va_S A s.heap H locs → lv_has ls 5 [(0, .ref a_t), (1, .int v1), (2, .int v2), (3, .int v3)] → W p l e (headSpec wsX4_isCorner ({ frames := 1, cells := 0, slots := 0, locals := 32 } : Room)).room s m args below meth c H locs 0 0 Q (F0 m 20 ls []) := by
    intro n
    induction n with
    | zero => intro v1 v2 v3 h; exact False.elim h
    | succ n20 ih20 =>
      have C38 : ∀ (v1 v2 v3 : Int32), wX4_isCorner_38 t_size t_profits n_t_profits t_weights n_t_weights (wX4_isCorner_20 t_size t_profits n_t_profits t_weights n_t_weights post n20) post v1 v2 v3 → ∀ (H : Heap) (locs : List Loc) (ls : Array Slot), va_P (dC, dI) vwCl [(a_t, .inr (4, [.ref a_t_weights, .ref a_t_profits, .ref a_t_bits, .int t_size])), (a_t_profits, .inl (cy 0, n_t_profits, .inl t_profits)), (a_t_weights, .inl (cy 0, n_t_weights, .inl t_weights))] H → va_D A [(a_t, .inr (4, [.ref a_t_weights, .ref a_t_profits, .ref a_t_bits, .int t_size])), (a_t_profits, .inl (cy 0, n_t_profits, .inl t_profits)), (a_t_weights, .inl (cy 0, n_t_weights, .inl t_weights))] → va_S A s.heap H locs → lv_has ls 5 [(0, .ref a_t), (1, .int v1), (2, .int v2), (3, .int v3)] → W p l e (headSpec wsX4_isCorner ({ frames := 1, cells := 0, slots := 0, locals := 32 } : Room)).room s m args below meth c H locs 0 0 Q (F0 m 38 ls []) := by
        intro v1 v2 v3 h H locs ls hP hD hS hl
        refine lv_iinc (v := (v3 + (1 : Int32))) (lv' := [(3, .int (v3 + (1 : Int32))), (0, .ref a_t), (1, .int v1), (2, .int v2)]) hx hb dX4_isCorner_38 hl (k := 3) rfl rfl (by decide) rfl (fun ls hl => ?_)
        refine lv_goto (tgt := 20) hx hb dX4_isCorner_41 (by decide) ?_
        exact ih20 v1 v2 (v3 + (1 : Int32)) h _ _ _ (x_sub hP [0, 1, 2] rfl) (hD.sub [0, 1, 2] (by decide) rfl) hS (lv_sub hl [1, 2, 3, 0] rfl)
      intro v1 v2 v3 h H locs ls hP hD hS hl
      replace h : wX4_isCorner_20_b t_size t_profits n_t_profits t_weights n_t_weights post (wX4_isCorner_20 t_size t_profits n_t_profits t_weights n_t_weights post n20) v1 v2 v3 := h
      refine lv_iload_n hx hb dX4_isCorner_20 rfl (lv_at hl 3 rfl) ?_
      refine lv_iload_n hx hb dX4_isCorner_21 rfl (lv_at hl 1 rfl) ?_
      refine lv_icmp_ge (tgt := 44) hx hb dX4_isCorner_22 (by decide) (fun c_3 => ?_) (fun c_3 => ?_)
      · replace h := h.1 c_3
        refine lv_iload_n hx hb dX4_isCorner_44 rfl (lv_at hl 1 rfl) ?_
        refine lv_iconst (v := 1) hx hb dX4_isCorner_45 (by decide) ?_
        refine lv_iadd hx hb dX4_isCorner_46 ?_
        refine lv_istore_n (lv' := [(3, .int (v1 + (1 : Int32))), (0, .ref a_t), (1, .int v1), (2, .int v2)]) hx hb dX4_isCorner_47 rfl hl (by decide) rfl (fun ls hl => ?_)
        refine lv_iload_n hx hb dX4_isCorner_48 rfl (lv_at hl 2 rfl) ?_
        refine lv_iconst (v := 2) hx hb dX4_isCorner_49 (by decide) ?_
        refine lv_iadd hx hb dX4_isCorner_50 ?_
        refine lv_istore (lv' := [(4, .int (v1 + (2 : Int32))), (3, .int (v1 + (1 : Int32))), (0, .ref a_t), (1, .int v1), (2, .int v2)]) hx hb dX4_isCorner_51 hl (by decide) rfl (fun ls hl => ?_)
        obtain ⟨n9, h⟩ := h
        exact L53 n9 v1 v2 (v1 + (1 : Int32)) (v1 + (2 : Int32)) h _ _ _ (x_sub hP [0, 1, 2] rfl) (hD.sub [0, 1, 2] (by decide) rfl) hS (lv_sub hl [2, 3, 4, 1, 0] rfl)
      · replace h := h.2 c_3
        refine lv_aload_n hx hb dX4_isCorner_25 rfl (lv_at hl 0 rfl) ?_
        refine lv_iload_n hx hb dX4_isCorner_26 rfl (lv_at hl 2 rfl) ?_
        refine lv_iload_n hx hb dX4_isCorner_27 rfl (lv_at hl 1 rfl) ?_
        refine lv_iload_n hx hb dX4_isCorner_28 rfl (lv_at hl 3 rfl) ?_
        refine lv_iload_n hx hb dX4_isCorner_29 rfl (lv_at hl 1 rfl) ?_
        refine xVi0 (As := [.int v2, .int v1, .int v3, .int v1]) (rest := []) ⟨hx, hb, hml, hown, hts⟩ (mtX4_isSteeper l ad dC dI cy a_t a_t_weights a_t_profits a_t_bits _ t_size t_profits n_t_profits t_weights n_t_weights v2 v1 v3 v1 h) (cwV 4 hts gX4_isCorner_X4_isSteeper rfl rfl rfl qX4_isSteeper ⟨Nat.le_of_ble_eq_true rfl, Nat.le_of_ble_eq_true rfl⟩) hE hK hP hD hS hA 4 0 rfl rfl rfl [0, 1, 2] rfl (by decide) rfl hl.1 rfl (Nat.le_of_ble_eq_true rfl) dX4_isCorner_30 ⟨Nat.le_refl _, Nat.le_refl _⟩ (fun r30 H locs h hP hS => ?_)
        try dsimp only at h
        refine lv_if_eq (tgt := 38) hx hb dX4_isCorner_33 (by decide) (fun c_4 => ?_) (fun c_4 => ?_)
        · replace h := h.1 c_4
          exact C38 v1 v2 v3 h _ _ _ (x_sub hP [0, 1, 2] rfl) (hD.sub [0, 1, 2] (by decide) rfl) hS (lv_sub hl [0, 1, 2, 3] rfl)
        · replace h := h.2 c_4
          refine lv_iload_n hx hb dX4_isCorner_36 rfl (lv_at hl 3 rfl) ?_
          refine lv_istore_n (lv' := [(2, .int v3), (0, .ref a_t), (1, .int v1), (3, .int v3)]) hx hb dX4_isCorner_37 rfl hl (by decide) rfl (fun ls hl => ?_)
          exact C38 v1 v3 v3 h _ _ _ (x_sub hP [0, 1, 2] rfl) (hD.sub [0, 1, 2] (by decide) rfl) hS (lv_sub hl [1, 2, 0, 3] rfl)
  refine lv_iload_n hx hb dX4_isCorner_0 rfl (lv_at hl 1 rfl) ?_
  refine lv_if_le (tgt := 14) hx hb dX4_isCorner_1 (by decide) (fun c_5 => ?_) (fun c_5 => ?_)
  · replace h := h.1 c_5
    refine lv_iconst (v := 1) hx hb dX4_isCorner_14 (by decide) ?_
    rw [← hQ]
    exact W.zret (v := (1 : Int32)) hx hb hr rfl (fun t ht hW => ⟨⟨(1 : Int32), (), rfl, h, x_end (w1 := [(a_t, .inr (4, [.ref a_t_weights, .ref a_t_profits, .ref a_t_bits, .int t_size])), (a_t_profits, .inl (cy 0, n_t_profits, .inl t_profits)), (a_t_weights, .inl (cy 0, n_t_weights, .inl t_weights))]) hP hD hK [0, 1, 2] rfl (by decide) rfl ht hW⟩, hS.F ht⟩) hS.2.2 dX4_isCorner_15
  · replace h := h.2 c_5
    refine lv_iload_n hx hb dX4_isCorner_4 rfl (lv_at hl 1 rfl) ?_
    refine lv_aload_n hx hb dX4_isCorner_5 rfl (lv_at hl 0 rfl) ?_
    refine va_get (D := (dC, dI)) (ci := 4) (v := .int t_size) (C := RX4) (T := TX4) (N := 4) hx hb hts iX4_isCorner_X4 hown hK hP 0 rfl rfl 3 (Nat.le_of_ble_eq_true rfl) (hts _ kX4_isCorner_0) (fun _ h9 => h9) rfl dX4_isCorner_6 ?_
    refine lv_iconst (v := 1) hx hb dX4_isCorner_9 (by decide) ?_
    refine lv_isub hx hb dX4_isCorner_10 ?_
    refine lv_icmp_lt (tgt := 16) hx hb dX4_isCorner_11 (by decide) (fun c_6 => ?_) (fun c_6 => ?_)
    · replace h := h.1 c_6
      refine lv_iconst (v := 0) hx hb dX4_isCorner_16 (by decide) ?_
      refine lv_istore_n (lv' := [(2, .int (0 : Int32)), (0, .ref a_t), (1, .int v1)]) hx hb dX4_isCorner_17 rfl hl (by decide) rfl (fun ls hl => ?_)
      refine lv_iconst (v := 1) hx hb dX4_isCorner_18 (by decide) ?_
      refine lv_istore_n (lv' := [(3, .int (1 : Int32)), (2, .int (0 : Int32)), (0, .ref a_t), (1, .int v1)]) hx hb dX4_isCorner_19 rfl hl (by decide) rfl (fun ls hl => ?_)
      obtain ⟨n9, h⟩ := h
      exact L20 n9 v1 (0 : Int32) (1 : Int32) h _ _ _ (x_sub hP [0, 1, 2] rfl) (hD.sub [0, 1, 2] (by decide) rfl) hS (lv_sub hl [2, 3, 1, 0] rfl)
    · replace h := h.2 c_6
      refine lv_iconst (v := 1) hx hb dX4_isCorner_14 (by decide) ?_
      rw [← hQ]
      exact W.zret (v := (1 : Int32)) hx hb hr rfl (fun t ht hW => ⟨⟨(1 : Int32), (), rfl, h, x_end (w1 := [(a_t, .inr (4, [.ref a_t_weights, .ref a_t_profits, .ref a_t_bits, .int t_size])), (a_t_profits, .inl (cy 0, n_t_profits, .inl t_profits)), (a_t_weights, .inl (cy 0, n_t_weights, .inl t_weights))]) hP hD hK [0, 1, 2] rfl (by decide) rfl ht hW⟩, hS.F ht⟩) hS.2.2 dX4_isCorner_15

theorem qX1_copyFrom : yX1_copyFrom.cls = RX1 ∧ yX1_copyFrom.cls ≠ "java/lang/invoke/MethodHandle" ∧ yX1_copyFrom.cls ≠ "java/lang/invoke/VarHandle" ∧ (parseMethodDescriptor yX1_copyFrom.desc).map (fun d => d.parameters.length) = some 1 := by decide +kernel
def wX5_copyFrom_11 (p1_length p1_fault p1_faultPlace p1_load_items p1_load_room p1_load_most p1_load_steps : Int32) (p1_load_weights p1_load_profits p1_text p1_shelfWeights p1_shelfProfits : Nat → Int32) (post : Int32 → Int32 → Int32 → Int32 → Int32 → Int32 → Int32 → (Nat → Int32) → (Nat → Int32) → (Nat → Int32) → (Nat → Int32) → (Nat → Int32) → Prop) (t_length t_fault t_faultPlace t_load_items t_load_room t_load_most t_load_steps : Int32) (t_load_weights t_load_profits t_text t_shelfWeights t_shelfProfits : Nat → Int32) : Prop :=
  ¬ p1_length < (0 : Int32) ∧ ((0 : Int32)).toNatClampNeg + (p1_length).toNatClampNeg ≤ 600 ∧ ((0 : Int32)).toNatClampNeg + (p1_length).toNatClampNeg ≤ 600 ∧ (∀ i : Nat, i < (p1_length).toNatClampNeg → fits .byte (.int (p1_text (((0 : Int32)).toNatClampNeg + i))) = true) ∧ ¬ (nI 8) < (0 : Int32) ∧ ((0 : Int32)).toNatClampNeg + ((nI 8)).toNatClampNeg ≤ 8 ∧ ((0 : Int32)).toNatClampNeg + ((nI 8)).toNatClampNeg ≤ 8 ∧ ¬ (nI 8) < (0 : Int32) ∧ ((0 : Int32)).toNatClampNeg + ((nI 8)).toNatClampNeg ≤ 8 ∧ ((0 : Int32)).toNatClampNeg + ((nI 8)).toNatClampNeg ≤ 8 ∧ post p1_length p1_fault p1_faultPlace t_load_items t_load_room t_load_most t_load_steps t_load_weights t_load_profits (va_cpy p1_text t_text ((0 : Int32)).toNatClampNeg ((0 : Int32)).toNatClampNeg (p1_length).toNatClampNeg) (va_cpy p1_shelfWeights t_shelfWeights ((0 : Int32)).toNatClampNeg ((0 : Int32)).toNatClampNeg ((nI 8)).toNatClampNeg) (va_cpy p1_shelfProfits t_shelfProfits ((0 : Int32)).toNatClampNeg ((0 : Int32)).toNatClampNeg ((nI 8)).toNatClampNeg)
/-- KnapsackCore$State.copyFrom(LKnapsackCore$State;)V -/
def wX5_copyFrom (p1_length p1_fault p1_faultPlace p1_load_items p1_load_room p1_load_most p1_load_steps : Int32) (p1_load_weights p1_load_profits p1_text p1_shelfWeights p1_shelfProfits : Nat → Int32) (post : Int32 → Int32 → Int32 → Int32 → Int32 → Int32 → Int32 → (Nat → Int32) → (Nat → Int32) → (Nat → Int32) → (Nat → Int32) → (Nat → Int32) → Prop) (t_length t_fault t_faultPlace t_load_items t_load_room t_load_most t_load_steps : Int32) (t_load_weights t_load_profits t_text t_shelfWeights t_shelfProfits : Nat → Int32) : Prop :=
  wX1_copyFrom p1_load_items p1_load_room p1_load_most p1_load_steps p1_load_weights p1_load_profits (fun m8_0 m8_1 m8_2 m8_3 m8_4 m8_5 => wX5_copyFrom_11 p1_length p1_fault p1_faultPlace p1_load_items p1_load_room p1_load_most p1_load_steps p1_load_weights p1_load_profits p1_text p1_shelfWeights p1_shelfProfits post t_length t_fault t_faultPlace m8_0 m8_1 m8_2 m8_3 m8_4 m8_5 t_text t_shelfWeights t_shelfProfits) t_load_items t_load_room t_load_most t_load_steps t_load_weights t_load_profits
theorem kX5_copyFrom_0 : Cond.fieldLink RX5 18 "KnapsackCore$State" "text" "[B" ∈ wsX5_copyFrom := (List.mem_cons_of_mem _ (List.mem_append_left _ (List.mem_append_left _ (List.mem_of_getElem? (i := 1) rfl))))
theorem kX5_copyFrom_1 : Cond.fieldLink RX5 43 "KnapsackCore$State" "length" "I" ∈ wsX5_copyFrom := (List.mem_cons_of_mem _ (List.mem_append_left _ (List.mem_append_left _ (List.mem_of_getElem? (i := 2) rfl))))
theorem kX5_copyFrom_2 : Cond.methodLink RX5 46 arraycopyName ∈ wsX5_copyFrom := (List.mem_cons_of_mem _ (List.mem_append_left _ (List.mem_append_left _ (List.mem_of_getElem? (i := 3) rfl))))
theorem kX5_copyFrom_3 : Cond.native arraycopyName ∈ wsX5_copyFrom := (List.mem_cons_of_mem _ (List.mem_append_left _ (List.mem_append_left _ (List.mem_of_getElem? (i := 4) rfl))))
theorem kX5_copyFrom_4 : Cond.static arraycopyName ∈ wsX5_copyFrom := (List.mem_cons_of_mem _ (List.mem_append_left _ (List.mem_append_left _ (List.mem_of_getElem? (i := 5) rfl))))
theorem kX5_copyFrom_5 : Cond.initialized "java/lang/System" ∈ wsX5_copyFrom := (List.mem_cons_of_mem _ (List.mem_append_left _ (List.mem_append_left _ (List.mem_of_getElem? (i := 6) rfl))))
theorem kX5_copyFrom_6 : Cond.fieldLink RX5 52 "KnapsackCore$State" "fault" "I" ∈ wsX5_copyFrom := (List.mem_cons_of_mem _ (List.mem_append_left _ (List.mem_append_left _ (List.mem_of_getElem? (i := 7) rfl))))
theorem kX5_copyFrom_7 : Cond.fieldLink RX5 29 "KnapsackCore$State" "faultPlace" "I" ∈ wsX5_copyFrom := (List.mem_cons_of_mem _ (List.mem_append_left _ (List.mem_append_left _ (List.mem_of_getElem? (i := 8) rfl))))
theorem kX5_copyFrom_8 : Cond.fieldLink RX5 22 "KnapsackCore$State" "shelfWeights" "[I" ∈ wsX5_copyFrom := (List.mem_cons_of_mem _ (List.mem_append_left _ (List.mem_append_left _ (List.mem_of_getElem? (i := 9) rfl))))
theorem kX5_copyFrom_9 : Cond.fieldLink RX5 26 "KnapsackCore$State" "shelfProfits" "[I" ∈ wsX5_copyFrom := (List.mem_cons_of_mem _ (List.mem_append_left _ (List.mem_append_left _ (List.mem_of_getElem? (i := 10) rfl))))
theorem kX5_copyFrom_10 : Cond.fieldLink RX5 12 "KnapsackCore$State" "load" "LKnapsackCore$Load;" ∈ wsX5_copyFrom := (List.mem_cons_of_mem _ (List.mem_append_left _ (List.mem_append_left _ (List.mem_of_getElem? (i := 0) rfl))))
theorem iX5_copyFrom_X5 : ∀ w ∈ u_ws RX5 TX5 7, w ∈ wsX5_copyFrom := fun w h => (List.mem_cons_of_mem _ (List.mem_append_left _ (List.mem_append_right _ h)))
set_option maxHeartbeats 4000000 in
set_option maxRecDepth 100000 in
theorem mtX5_copyFrom (l : Launch) (ad : (Nat → Nat) × (Nat → Nat)) (dC : Nat → ClassId) (dI : Nat → Nat → Nat) (cy : Nat → ClassId) (a_t a_t_load a_t_text a_t_shelfWeights a_t_shelfProfits a_p1 a_p1_load a_p1_text a_p1_shelfWeights a_p1_shelfProfits a_t_load_weights a_t_load_profits a_p1_load_weights a_p1_load_profits : Nat) (sz : Nat) (t_length t_fault t_faultPlace p1_length p1_fault p1_faultPlace t_load_items t_load_room t_load_most t_load_steps p1_load_items p1_load_room p1_load_most p1_load_steps : Int32) (p1_load_weights t_load_weights p1_load_profits t_load_profits p1_text t_text t_shelfWeights p1_shelfWeights t_shelfProfits p1_shelfProfits : Nat → Int32) {post : Int32 → Int32 → Int32 → Int32 → Int32 → Int32 → Int32 → (Nat → Int32) → (Nat → Int32) → (Nat → Int32) → (Nat → Int32) → (Nat → Int32) → Prop} (h : wX5_copyFrom p1_length p1_fault p1_faultPlace p1_load_items p1_load_room p1_load_most p1_load_steps p1_load_weights p1_load_profits p1_text p1_shelfWeights p1_shelfProfits post t_length t_fault t_faultPlace t_load_items t_load_room t_load_most t_load_steps t_load_weights t_load_profits t_text t_shelfWeights t_shelfProfits) : xMv l yX5_copyFrom wsX5_copyFrom ({ frames := 2, cells := 0, slots := 0, locals := 61 } : Room) ad (dC, dI) vwCl (xT cy) [.ref a_t, .ref a_p1] [(a_t, .inr (5, [.ref a_t_load, .ref a_t_text, .int t_length, .int t_fault, .int t_faultPlace, .ref a_t_shelfWeights, .ref a_t_shelfProfits])), (a_p1, .inr (5, [.ref a_p1_load, .ref a_p1_text, .int p1_length, .int p1_fault, .int p1_faultPlace, .ref a_p1_shelfWeights, .ref a_p1_shelfProfits])), (a_t_load, .inr (1, [.ref a_t_load_weights, .ref a_t_load_profits, .int t_load_items, .int t_load_room, .int t_load_most, .int t_load_steps])), (a_p1_load, .inr (1, [.ref a_p1_load_weights, .ref a_p1_load_profits, .int p1_load_items, .int p1_load_room, .int p1_load_most, .int p1_load_steps])), (a_p1_load_weights, .inl (cy 0, 60, .inl p1_load_weights)), (a_t_load_weights, .inl (cy 0, 60, .inl t_load_weights)), (a_p1_load_profits, .inl (cy 0, 60, .inl p1_load_profits)), (a_t_load_profits, .inl (cy 0, 60, .inl t_load_profits)), (a_p1_text, .inl (cy 2, 600, .inl p1_text)), (a_t_text, .inl (cy 2, 600, .inl t_text)), (a_t_shelfWeights, .inl (cy 0, 8, .inl t_shelfWeights)), (a_p1_shelfWeights, .inl (cy 0, 8, .inl p1_shelfWeights)), (a_t_shelfProfits, .inl (cy 0, 8, .inl t_shelfProfits)), (a_p1_shelfProfits, .inl (cy 0, 8, .inl p1_shelfProfits))] sz (fun (u : Int32 × Int32 × Int32 × Int32 × Int32 × Int32 × Int32 × (Nat → Int32) × (Nat → Int32) × (Nat → Int32) × (Nat → Int32) × (Nat → Int32)) => post u.1 u.2.1 u.2.2.1 u.2.2.2.1 u.2.2.2.2.1 u.2.2.2.2.2.1 u.2.2.2.2.2.2.1 u.2.2.2.2.2.2.2.1 u.2.2.2.2.2.2.2.2.1 u.2.2.2.2.2.2.2.2.2.1 u.2.2.2.2.2.2.2.2.2.2.1 u.2.2.2.2.2.2.2.2.2.2.2) (fun (u : Int32 × Int32 × Int32 × Int32 × Int32 × Int32 × Int32 × (Nat → Int32) × (Nat → Int32) × (Nat → Int32) × (Nat → Int32) × (Nat → Int32)) w => w = [(a_t, .inr (5, [.ref a_t_load, .ref a_t_text, .int u.1, .int u.2.1, .int u.2.2.1, .ref a_t_shelfWeights, .ref a_t_shelfProfits])), (a_p1, .inr (5, [.ref a_p1_load, .ref a_p1_text, .int p1_length, .int p1_fault, .int p1_faultPlace, .ref a_p1_shelfWeights, .ref a_p1_shelfProfits])), (a_t_load, .inr (1, [.ref a_t_load_weights, .ref a_t_load_profits, .int u.2.2.2.1, .int u.2.2.2.2.1, .int u.2.2.2.2.2.1, .int u.2.2.2.2.2.2.1])), (a_p1_load, .inr (1, [.ref a_p1_load_weights, .ref a_p1_load_profits, .int p1_load_items, .int p1_load_room, .int p1_load_most, .int p1_load_steps])), (a_p1_load_weights, .inl (cy 0, 60, .inl p1_load_weights)), (a_t_load_weights, .inl (cy 0, 60, .inl u.2.2.2.2.2.2.2.1)), (a_p1_load_profits, .inl (cy 0, 60, .inl p1_load_profits)), (a_t_load_profits, .inl (cy 0, 60, .inl u.2.2.2.2.2.2.2.2.1)), (a_p1_text, .inl (cy 2, 600, .inl p1_text)), (a_t_text, .inl (cy 2, 600, .inl u.2.2.2.2.2.2.2.2.2.1)), (a_t_shelfWeights, .inl (cy 0, 8, .inl u.2.2.2.2.2.2.2.2.2.2.1)), (a_p1_shelfWeights, .inl (cy 0, 8, .inl p1_shelfWeights)), (a_t_shelfProfits, .inl (cy 0, 8, .inl u.2.2.2.2.2.2.2.2.2.2.2)), (a_p1_shelfProfits, .inl (cy 0, 8, .inl p1_shelfProfits))]) 0 0 := by
  unfold xMv
  refine Met.ofW (cc := cX5_copyFrom) (maxL := 2) (ret := none) (by decide +kernel) rfl ?_
  intro p e s m args below meth c s₁ B hml hv
  obtain ⟨rfl, hsz, hP, hK, hD0, hE⟩ := hv
  have hx := B.exec
  have hb := B.bytes
  have hr := B.returns
  have hts := atoms_spec (ws := wsX5_copyFrom) B.pre
  have hown : s.vm.findClass RX5 = some m.cls := findClass_of_methodNamed B.named
  have hlocks := B.notSynchronized
  subst hsz
  have hD := hD0.self (sz := s.heap.size)
  generalize hAe : va_A [(a_t, .inr (5, [.ref a_t_load, .ref a_t_text, .int t_length, .int t_fault, .int t_faultPlace, .ref a_t_shelfWeights, .ref a_t_shelfProfits])), (a_p1, .inr (5, [.ref a_p1_load, .ref a_p1_text, .int p1_length, .int p1_fault, .int p1_faultPlace, .ref a_p1_shelfWeights, .ref a_p1_shelfProfits])), (a_t_load, .inr (1, [.ref a_t_load_weights, .ref a_t_load_profits, .int t_load_items, .int t_load_room, .int t_load_most, .int t_load_steps])), (a_p1_load, .inr (1, [.ref a_p1_load_weights, .ref a_p1_load_profits, .int p1_load_items, .int p1_load_room, .int p1_load_most, .int p1_load_steps])), (a_p1_load_weights, .inl (cy 0, 60, .inl p1_load_weights)), (a_t_load_weights, .inl (cy 0, 60, .inl t_load_weights)), (a_p1_load_profits, .inl (cy 0, 60, .inl p1_load_profits)), (a_t_load_profits, .inl (cy 0, 60, .inl t_load_profits)), (a_p1_text, .inl (cy 2, 600, .inl p1_text)), (a_t_text, .inl (cy 2, 600, .inl t_text)), (a_t_shelfWeights, .inl (cy 0, 8, .inl t_shelfWeights)), (a_p1_shelfWeights, .inl (cy 0, 8, .inl p1_shelfWeights)), (a_t_shelfProfits, .inl (cy 0, 8, .inl t_shelfProfits)), (a_p1_shelfProfits, .inl (cy 0, 8, .inl p1_shelfProfits))] s.heap.size = A at hD hE ⊢
  have hA : ∀ q : Nat, s.heap.size ≤ q → A q := fun q h => by rw [← hAe]; exact Or.inr h
  have hS : va_S A s.heap s.heap [] := va_S.rf
  have hl := lv_entry ([.ref a_t, .ref a_p1]) (n := 2) (Nat.le_of_ble_eq_true rfl)
  rw [lg_entry_eq]
  generalize (lg_sl ([.ref a_t, .ref a_p1]) ++ List.replicate (2 - (lg_sl ([.ref a_t, .ref a_p1])).length) Slot.unset).toArray = ls at hl ⊢
  have hl : lv_has ls 2 [(0, .ref a_t), (1, .ref a_p1)] := hl
  generalize hQ : MQ below _ _ s _ _ _ = Q
  generalize ([.ref a_t, .ref a_p1] : List Value).toArray = args at hts hQ ⊢
  clear B hD0 hAe
  refine lv_aload_n hx hb dX5_copyFrom_0 rfl (lv_at hl 0 rfl) ?_
  refine va_get (D := (dC, dI)) (ci := 5) (v := .ref a_t_load) (C := RX5) (T := TX5) (N := 7) hx hb hts iX5_copyFrom_X5 hown hK hP 0 rfl rfl 0 (Nat.le_of_ble_eq_true rfl) (hts _ kX5_copyFrom_10) (fun _ h9 => h9) rfl dX5_copyFrom_1 ?_
  refine lv_aload_n hx hb dX5_copyFrom_4 rfl (lv_at hl 1 rfl) ?_
  refine va_get (D := (dC, dI)) (ci := 5) (v := .ref a_p1_load) (C := RX5) (T := TX5) (N := 7) hx hb hts iX5_copyFrom_X5 hown hK hP 1 rfl rfl 0 (Nat.le_of_ble_eq_true rfl) (hts _ kX5_copyFrom_10) (fun _ h9 => h9) rfl dX5_copyFrom_5 ?_
  refine xVv (wr := [(a_t, .inr (5, [.ref a_t_load, .ref a_t_text, .int t_length, .int t_fault, .int t_faultPlace, .ref a_t_shelfWeights, .ref a_t_shelfProfits])), (a_p1, .inr (5, [.ref a_p1_load, .ref a_p1_text, .int p1_length, .int p1_fault, .int p1_faultPlace, .ref a_p1_shelfWeights, .ref a_p1_shelfProfits])), (a_p1_text, .inl (cy 2, 600, .inl p1_text)), (a_t_text, .inl (cy 2, 600, .inl t_text)), (a_t_shelfWeights, .inl (cy 0, 8, .inl t_shelfWeights)), (a_p1_shelfWeights, .inl (cy 0, 8, .inl p1_shelfWeights)), (a_t_shelfProfits, .inl (cy 0, 8, .inl t_shelfProfits)), (a_p1_shelfProfits, .inl (cy 0, 8, .inl p1_shelfProfits))]) (As := [.ref a_p1_load]) (rest := []) ⟨hx, hb, hml, hown, hts⟩ (mtX1_copyFrom l ad dC dI cy a_t_load a_t_load_weights a_t_load_profits a_p1_load a_p1_load_weights a_p1_load_profits _ t_load_items t_load_room t_load_most t_load_steps p1_load_items p1_load_room p1_load_most p1_load_steps p1_load_weights t_load_weights p1_load_profits t_load_profits  h) (cwV 1 hts gX5_copyFrom_X1_copyFrom rfl rfl rfl qX1_copyFrom ⟨Nat.le_of_ble_eq_true rfl, Nat.le_of_ble_eq_true rfl⟩) hE hK hP hD hS hA 1 0 rfl rfl rfl [2, 3, 4, 5, 6, 7] [0, 1, 8, 9, 10, 11, 12, 13] rfl rfl (by decide) (by decide) (by decide) rfl hl.1 rfl (Nat.le_of_ble_eq_true rfl) dX5_copyFrom_8 ⟨Nat.le_refl _, Nat.le_refl _⟩ (fun u w1 H locs h hF hP hD hS => ?_)
  obtain ⟨m8_0, m8_1, m8_2, m8_3, m8_4, m8_5⟩ := u
  try dsimp only at h
  replace hF : w1 = [(a_t_load, .inr (1, [.ref a_t_load_weights, .ref a_t_load_profits, .int m8_0, .int m8_1, .int m8_2, .int m8_3])), (a_p1_load, .inr (1, [.ref a_p1_load_weights, .ref a_p1_load_profits, .int p1_load_items, .int p1_load_room, .int p1_load_most, .int p1_load_steps])), (a_p1_load_weights, .inl (cy 0, 60, .inl p1_load_weights)), (a_t_load_weights, .inl (cy 0, 60, .inl m8_4)), (a_p1_load_profits, .inl (cy 0, 60, .inl p1_load_profits)), (a_t_load_profits, .inl (cy 0, 60, .inl m8_5))] := hF
  subst hF
  have hP : va_P (dC, dI) vwCl [(a_t, .inr (5, [.ref a_t_load, .ref a_t_text, .int t_length, .int t_fault, .int t_faultPlace, .ref a_t_shelfWeights, .ref a_t_shelfProfits])), (a_p1, .inr (5, [.ref a_p1_load, .ref a_p1_text, .int p1_length, .int p1_fault, .int p1_faultPlace, .ref a_p1_shelfWeights, .ref a_p1_shelfProfits])), (a_p1_text, .inl (cy 2, 600, .inl p1_text)), (a_t_text, .inl (cy 2, 600, .inl t_text)), (a_t_shelfWeights, .inl (cy 0, 8, .inl t_shelfWeights)), (a_p1_shelfWeights, .inl (cy 0, 8, .inl p1_shelfWeights)), (a_t_shelfProfits, .inl (cy 0, 8, .inl t_shelfProfits)), (a_p1_shelfProfits, .inl (cy 0, 8, .inl p1_shelfProfits)), (a_t_load, .inr (1, [.ref a_t_load_weights, .ref a_t_load_profits, .int m8_0, .int m8_1, .int m8_2, .int m8_3])), (a_p1_load, .inr (1, [.ref a_p1_load_weights, .ref a_p1_load_profits, .int p1_load_items, .int p1_load_room, .int p1_load_most, .int p1_load_steps])), (a_p1_load_weights, .inl (cy 0, 60, .inl p1_load_weights)), (a_t_load_weights, .inl (cy 0, 60, .inl m8_4)), (a_p1_load_profits, .inl (cy 0, 60, .inl p1_load_profits)), (a_t_load_profits, .inl (cy 0, 60, .inl m8_5))] H := hP
  have hD : va_D A [(a_t, .inr (5, [.ref a_t_load, .ref a_t_text, .int t_length, .int t_fault, .int t_faultPlace, .ref a_t_shelfWeights, .ref a_t_shelfProfits])), (a_p1, .inr (5, [.ref a_p1_load, .ref a_p1_text, .int p1_length, .int p1_fault, .int p1_faultPlace, .ref a_p1_shelfWeights, .ref a_p1_shelfProfits])), (a_p1_text, .inl (cy 2, 600, .inl p1_text)), (a_t_text, .inl (cy 2, 600, .inl t_text)), (a_t_shelfWeights, .inl (cy 0, 8, .inl t_shelfWeights)), (a_p1_shelfWeights, .inl (cy 0, 8, .inl p1_shelfWeights)), (a_t_shelfProfits, .inl (cy 0, 8, .inl t_shelfProfits)), (a_p1_shelfProfits, .inl (cy 0, 8, .inl p1_shelfProfits)), (a_t_load, .inr (1, [.ref a_t_load_weights, .ref a_t_load_profits, .int m8_0, .int m8_1, .int m8_2, .int m8_3])), (a_p1_load, .inr (1, [.ref a_p1_load_weights, .ref a_p1_load_profits, .int p1_load_items, .int p1_load_room, .int p1_load_most, .int p1_load_steps])), (a_p1_load_weights, .inl (cy 0, 60, .inl p1_load_weights)), (a_t_load_weights, .inl (cy 0, 60, .inl m8_4)), (a_p1_load_profits, .inl (cy 0, 60, .inl p1_load_profits)), (a_t_load_profits, .inl (cy 0, 60, .inl m8_5))] := hD
  refine lv_aload_n hx hb dX5_copyFrom_11 rfl (lv_at hl 1 rfl) ?_
  refine va_get (D := (dC, dI)) (ci := 5) (v := .ref a_p1_text) (C := RX5) (T := TX5) (N := 7) hx hb hts iX5_copyFrom_X5 hown hK hP 1 rfl rfl 1 (Nat.le_of_ble_eq_true rfl) (hts _ kX5_copyFrom_0) (fun _ h9 => h9) rfl dX5_copyFrom_12 ?_
  refine lv_iconst (v := 0) hx hb dX5_copyFrom_15 (by decide) ?_
  refine lv_aload_n hx hb dX5_copyFrom_16 rfl (lv_at hl 0 rfl) ?_
  refine va_get (D := (dC, dI)) (ci := 5) (v := .ref a_t_text) (C := RX5) (T := TX5) (N := 7) hx hb hts iX5_copyFrom_X5 hown hK hP 0 rfl rfl 1 (Nat.le_of_ble_eq_true rfl) (hts _ kX5_copyFrom_0) (fun _ h9 => h9) rfl dX5_copyFrom_17 ?_
  refine lv_iconst (v := 0) hx hb dX5_copyFrom_20 (by decide) ?_
  refine lv_aload_n hx hb dX5_copyFrom_21 rfl (lv_at hl 1 rfl) ?_
  refine va_get (D := (dC, dI)) (ci := 5) (v := .int p1_length) (C := RX5) (T := TX5) (N := 7) hx hb hts iX5_copyFrom_X5 hown hK hP 1 rfl rfl 2 (Nat.le_of_ble_eq_true rfl) (hts _ kX5_copyFrom_1) (fun _ h9 => h9) rfl dX5_copyFrom_22 ?_
  refine va_copyi (D := (dC, dI)) hx hb (hml.trans hl.1.symm) hown (hts _ kX5_copyFrom_2) (hts _ kX5_copyFrom_3) (hts _ kX5_copyFrom_4) (hts _ kX5_copyFrom_5) hK hP hD hS 2 3 2 2 rfl rfl rfl rfl rfl (by decide) (by decide) h.1 h.2.1 h.2.2.1 h.2.2.2.1 (Nat.le_of_ble_eq_true rfl) (Nat.le_of_ble_eq_true rfl) dX5_copyFrom_25 (fun H locs hP hD hS => ?_)
  replace h := h.2.2.2.2
  have hP : va_P (dC, dI) vwCl [(a_t, .inr (5, [.ref a_t_load, .ref a_t_text, .int t_length, .int t_fault, .int t_faultPlace, .ref a_t_shelfWeights, .ref a_t_shelfProfits])), (a_p1, .inr (5, [.ref a_p1_load, .ref a_p1_text, .int p1_length, .int p1_fault, .int p1_faultPlace, .ref a_p1_shelfWeights, .ref a_p1_shelfProfits])), (a_p1_text, .inl (cy 2, 600, .inl p1_text)), (a_t_text, .inl (cy 2, 600, .inl (va_cpy p1_text t_text ((0 : Int32)).toNatClampNeg ((0 : Int32)).toNatClampNeg (p1_length).toNatClampNeg))), (a_t_shelfWeights, .inl (cy 0, 8, .inl t_shelfWeights)), (a_p1_shelfWeights, .inl (cy 0, 8, .inl p1_shelfWeights)), (a_t_shelfProfits, .inl (cy 0, 8, .inl t_shelfProfits)), (a_p1_shelfProfits, .inl (cy 0, 8, .inl p1_shelfProfits)), (a_t_load, .inr (1, [.ref a_t_load_weights, .ref a_t_load_profits, .int m8_0, .int m8_1, .int m8_2, .int m8_3])), (a_p1_load, .inr (1, [.ref a_p1_load_weights, .ref a_p1_load_profits, .int p1_load_items, .int p1_load_room, .int p1_load_most, .int p1_load_steps])), (a_p1_load_weights, .inl (cy 0, 60, .inl p1_load_weights)), (a_t_load_weights, .inl (cy 0, 60, .inl m8_4)), (a_p1_load_profits, .inl (cy 0, 60, .inl p1_load_profits)), (a_t_load_profits, .inl (cy 0, 60, .inl m8_5))] H := hP
  have hD : va_D A [(a_t, .inr (5, [.ref a_t_load, .ref a_t_text, .int t_length, .int t_fault, .int t_faultPlace, .ref a_t_shelfWeights, .ref a_t_shelfProfits])), (a_p1, .inr (5, [.ref a_p1_load, .ref a_p1_text, .int p1_length, .int p1_fault, .int p1_faultPlace, .ref a_p1_shelfWeights, .ref a_p1_shelfProfits])), (a_p1_text, .inl (cy 2, 600, .inl p1_text)), (a_t_text, .inl (cy 2, 600, .inl (va_cpy p1_text t_text ((0 : Int32)).toNatClampNeg ((0 : Int32)).toNatClampNeg (p1_length).toNatClampNeg))), (a_t_shelfWeights, .inl (cy 0, 8, .inl t_shelfWeights)), (a_p1_shelfWeights, .inl (cy 0, 8, .inl p1_shelfWeights)), (a_t_shelfProfits, .inl (cy 0, 8, .inl t_shelfProfits)), (a_p1_shelfProfits, .inl (cy 0, 8, .inl p1_shelfProfits)), (a_t_load, .inr (1, [.ref a_t_load_weights, .ref a_t_load_profits, .int m8_0, .int m8_1, .int m8_2, .int m8_3])), (a_p1_load, .inr (1, [.ref a_p1_load_weights, .ref a_p1_load_profits, .int p1_load_items, .int p1_load_room, .int p1_load_most, .int p1_load_steps])), (a_p1_load_weights, .inl (cy 0, 60, .inl p1_load_weights)), (a_t_load_weights, .inl (cy 0, 60, .inl m8_4)), (a_p1_load_profits, .inl (cy 0, 60, .inl p1_load_profits)), (a_t_load_profits, .inl (cy 0, 60, .inl m8_5))] := hD
  refine lv_aload_n hx hb dX5_copyFrom_28 rfl (lv_at hl 0 rfl) ?_
  refine lv_aload_n hx hb dX5_copyFrom_29 rfl (lv_at hl 1 rfl) ?_
  refine va_get (D := (dC, dI)) (ci := 5) (v := .int p1_length) (C := RX5) (T := TX5) (N := 7) hx hb hts iX5_copyFrom_X5 hown hK hP 1 rfl rfl 2 (Nat.le_of_ble_eq_true rfl) (hts _ kX5_copyFrom_1) (fun _ h9 => h9) rfl dX5_copyFrom_30 ?_
  refine va_put (D := (dC, dI)) (ci := 5) (v := .int p1_length) (C := RX5) (T := TX5) (N := 7) hx hb hts iX5_copyFrom_X5 tyX5 tyX5_ok nmX5 hown hK hP hD hS 0 rfl rfl 2 (Nat.le_of_ble_eq_true rfl) (hts _ kX5_copyFrom_1) (fun _ h9 => h9) rfl (tyX5_ok 2 (Nat.le_of_ble_eq_true rfl)) rfl rfl (Nat.le_of_ble_eq_true rfl) dX5_copyFrom_33 (fun H locs hP hD hS => ?_)
  have hP : va_P (dC, dI) vwCl [(a_t, .inr (5, [.ref a_t_load, .ref a_t_text, .int p1_length, .int t_fault, .int t_faultPlace, .ref a_t_shelfWeights, .ref a_t_shelfProfits])), (a_p1, .inr (5, [.ref a_p1_load, .ref a_p1_text, .int p1_length, .int p1_fault, .int p1_faultPlace, .ref a_p1_shelfWeights, .ref a_p1_shelfProfits])), (a_p1_text, .inl (cy 2, 600, .inl p1_text)), (a_t_text, .inl (cy 2, 600, .inl (va_cpy p1_text t_text ((0 : Int32)).toNatClampNeg ((0 : Int32)).toNatClampNeg (p1_length).toNatClampNeg))), (a_t_shelfWeights, .inl (cy 0, 8, .inl t_shelfWeights)), (a_p1_shelfWeights, .inl (cy 0, 8, .inl p1_shelfWeights)), (a_t_shelfProfits, .inl (cy 0, 8, .inl t_shelfProfits)), (a_p1_shelfProfits, .inl (cy 0, 8, .inl p1_shelfProfits)), (a_t_load, .inr (1, [.ref a_t_load_weights, .ref a_t_load_profits, .int m8_0, .int m8_1, .int m8_2, .int m8_3])), (a_p1_load, .inr (1, [.ref a_p1_load_weights, .ref a_p1_load_profits, .int p1_load_items, .int p1_load_room, .int p1_load_most, .int p1_load_steps])), (a_p1_load_weights, .inl (cy 0, 60, .inl p1_load_weights)), (a_t_load_weights, .inl (cy 0, 60, .inl m8_4)), (a_p1_load_profits, .inl (cy 0, 60, .inl p1_load_profits)), (a_t_load_profits, .inl (cy 0, 60, .inl m8_5))] H := hP
  have hD : va_D A [(a_t, .inr (5, [.ref a_t_load, .ref a_t_text, .int p1_length, .int t_fault, .int t_faultPlace, .ref a_t_shelfWeights, .ref a_t_shelfProfits])), (a_p1, .inr (5, [.ref a_p1_load, .ref a_p1_text, .int p1_length, .int p1_fault, .int p1_faultPlace, .ref a_p1_shelfWeights, .ref a_p1_shelfProfits])), (a_p1_text, .inl (cy 2, 600, .inl p1_text)), (a_t_text, .inl (cy 2, 600, .inl (va_cpy p1_text t_text ((0 : Int32)).toNatClampNeg ((0 : Int32)).toNatClampNeg (p1_length).toNatClampNeg))), (a_t_shelfWeights, .inl (cy 0, 8, .inl t_shelfWeights)), (a_p1_shelfWeights, .inl (cy 0, 8, .inl p1_shelfWeights)), (a_t_shelfProfits, .inl (cy 0, 8, .inl t_shelfProfits)), (a_p1_shelfProfits, .inl (cy 0, 8, .inl p1_shelfProfits)), (a_t_load, .inr (1, [.ref a_t_load_weights, .ref a_t_load_profits, .int m8_0, .int m8_1, .int m8_2, .int m8_3])), (a_p1_load, .inr (1, [.ref a_p1_load_weights, .ref a_p1_load_profits, .int p1_load_items, .int p1_load_room, .int p1_load_most, .int p1_load_steps])), (a_p1_load_weights, .inl (cy 0, 60, .inl p1_load_weights)), (a_t_load_weights, .inl (cy 0, 60, .inl m8_4)), (a_p1_load_profits, .inl (cy 0, 60, .inl p1_load_profits)), (a_t_load_profits, .inl (cy 0, 60, .inl m8_5))] := hD
  refine lv_aload_n hx hb dX5_copyFrom_36 rfl (lv_at hl 0 rfl) ?_
  refine lv_aload_n hx hb dX5_copyFrom_37 rfl (lv_at hl 1 rfl) ?_
  refine va_get (D := (dC, dI)) (ci := 5) (v := .int p1_fault) (C := RX5) (T := TX5) (N := 7) hx hb hts iX5_copyFrom_X5 hown hK hP 1 rfl rfl 3 (Nat.le_of_ble_eq_true rfl) (hts _ kX5_copyFrom_6) (fun _ h9 => h9) rfl dX5_copyFrom_38 ?_
  refine va_put (D := (dC, dI)) (ci := 5) (v := .int p1_fault) (C := RX5) (T := TX5) (N := 7) hx hb hts iX5_copyFrom_X5 tyX5 tyX5_ok nmX5 hown hK hP hD hS 0 rfl rfl 3 (Nat.le_of_ble_eq_true rfl) (hts _ kX5_copyFrom_6) (fun _ h9 => h9) rfl (tyX5_ok 3 (Nat.le_of_ble_eq_true rfl)) rfl rfl (Nat.le_of_ble_eq_true rfl) dX5_copyFrom_41 (fun H locs hP hD hS => ?_)
  have hP : va_P (dC, dI) vwCl [(a_t, .inr (5, [.ref a_t_load, .ref a_t_text, .int p1_length, .int p1_fault, .int t_faultPlace, .ref a_t_shelfWeights, .ref a_t_shelfProfits])), (a_p1, .inr (5, [.ref a_p1_load, .ref a_p1_text, .int p1_length, .int p1_fault, .int p1_faultPlace, .ref a_p1_shelfWeights, .ref a_p1_shelfProfits])), (a_p1_text, .inl (cy 2, 600, .inl p1_text)), (a_t_text, .inl (cy 2, 600, .inl (va_cpy p1_text t_text ((0 : Int32)).toNatClampNeg ((0 : Int32)).toNatClampNeg (p1_length).toNatClampNeg))), (a_t_shelfWeights, .inl (cy 0, 8, .inl t_shelfWeights)), (a_p1_shelfWeights, .inl (cy 0, 8, .inl p1_shelfWeights)), (a_t_shelfProfits, .inl (cy 0, 8, .inl t_shelfProfits)), (a_p1_shelfProfits, .inl (cy 0, 8, .inl p1_shelfProfits)), (a_t_load, .inr (1, [.ref a_t_load_weights, .ref a_t_load_profits, .int m8_0, .int m8_1, .int m8_2, .int m8_3])), (a_p1_load, .inr (1, [.ref a_p1_load_weights, .ref a_p1_load_profits, .int p1_load_items, .int p1_load_room, .int p1_load_most, .int p1_load_steps])), (a_p1_load_weights, .inl (cy 0, 60, .inl p1_load_weights)), (a_t_load_weights, .inl (cy 0, 60, .inl m8_4)), (a_p1_load_profits, .inl (cy 0, 60, .inl p1_load_profits)), (a_t_load_profits, .inl (cy 0, 60, .inl m8_5))] H := hP
  have hD : va_D A [(a_t, .inr (5, [.ref a_t_load, .ref a_t_text, .int p1_length, .int p1_fault, .int t_faultPlace, .ref a_t_shelfWeights, .ref a_t_shelfProfits])), (a_p1, .inr (5, [.ref a_p1_load, .ref a_p1_text, .int p1_length, .int p1_fault, .int p1_faultPlace, .ref a_p1_shelfWeights, .ref a_p1_shelfProfits])), (a_p1_text, .inl (cy 2, 600, .inl p1_text)), (a_t_text, .inl (cy 2, 600, .inl (va_cpy p1_text t_text ((0 : Int32)).toNatClampNeg ((0 : Int32)).toNatClampNeg (p1_length).toNatClampNeg))), (a_t_shelfWeights, .inl (cy 0, 8, .inl t_shelfWeights)), (a_p1_shelfWeights, .inl (cy 0, 8, .inl p1_shelfWeights)), (a_t_shelfProfits, .inl (cy 0, 8, .inl t_shelfProfits)), (a_p1_shelfProfits, .inl (cy 0, 8, .inl p1_shelfProfits)), (a_t_load, .inr (1, [.ref a_t_load_weights, .ref a_t_load_profits, .int m8_0, .int m8_1, .int m8_2, .int m8_3])), (a_p1_load, .inr (1, [.ref a_p1_load_weights, .ref a_p1_load_profits, .int p1_load_items, .int p1_load_room, .int p1_load_most, .int p1_load_steps])), (a_p1_load_weights, .inl (cy 0, 60, .inl p1_load_weights)), (a_t_load_weights, .inl (cy 0, 60, .inl m8_4)), (a_p1_load_profits, .inl (cy 0, 60, .inl p1_load_profits)), (a_t_load_profits, .inl (cy 0, 60, .inl m8_5))] := hD
  refine lv_aload_n hx hb dX5_copyFrom_44 rfl (lv_at hl 0 rfl) ?_
  refine lv_aload_n hx hb dX5_copyFrom_45 rfl (lv_at hl 1 rfl) ?_
  refine va_get (D := (dC, dI)) (ci := 5) (v := .int p1_faultPlace) (C := RX5) (T := TX5) (N := 7) hx hb hts iX5_copyFrom_X5 hown hK hP 1 rfl rfl 4 (Nat.le_of_ble_eq_true rfl) (hts _ kX5_copyFrom_7) (fun _ h9 => h9) rfl dX5_copyFrom_46 ?_
  refine va_put (D := (dC, dI)) (ci := 5) (v := .int p1_faultPlace) (C := RX5) (T := TX5) (N := 7) hx hb hts iX5_copyFrom_X5 tyX5 tyX5_ok nmX5 hown hK hP hD hS 0 rfl rfl 4 (Nat.le_of_ble_eq_true rfl) (hts _ kX5_copyFrom_7) (fun _ h9 => h9) rfl (tyX5_ok 4 (Nat.le_of_ble_eq_true rfl)) rfl rfl (Nat.le_of_ble_eq_true rfl) dX5_copyFrom_49 (fun H locs hP hD hS => ?_)
  have hP : va_P (dC, dI) vwCl [(a_t, .inr (5, [.ref a_t_load, .ref a_t_text, .int p1_length, .int p1_fault, .int p1_faultPlace, .ref a_t_shelfWeights, .ref a_t_shelfProfits])), (a_p1, .inr (5, [.ref a_p1_load, .ref a_p1_text, .int p1_length, .int p1_fault, .int p1_faultPlace, .ref a_p1_shelfWeights, .ref a_p1_shelfProfits])), (a_p1_text, .inl (cy 2, 600, .inl p1_text)), (a_t_text, .inl (cy 2, 600, .inl (va_cpy p1_text t_text ((0 : Int32)).toNatClampNeg ((0 : Int32)).toNatClampNeg (p1_length).toNatClampNeg))), (a_t_shelfWeights, .inl (cy 0, 8, .inl t_shelfWeights)), (a_p1_shelfWeights, .inl (cy 0, 8, .inl p1_shelfWeights)), (a_t_shelfProfits, .inl (cy 0, 8, .inl t_shelfProfits)), (a_p1_shelfProfits, .inl (cy 0, 8, .inl p1_shelfProfits)), (a_t_load, .inr (1, [.ref a_t_load_weights, .ref a_t_load_profits, .int m8_0, .int m8_1, .int m8_2, .int m8_3])), (a_p1_load, .inr (1, [.ref a_p1_load_weights, .ref a_p1_load_profits, .int p1_load_items, .int p1_load_room, .int p1_load_most, .int p1_load_steps])), (a_p1_load_weights, .inl (cy 0, 60, .inl p1_load_weights)), (a_t_load_weights, .inl (cy 0, 60, .inl m8_4)), (a_p1_load_profits, .inl (cy 0, 60, .inl p1_load_profits)), (a_t_load_profits, .inl (cy 0, 60, .inl m8_5))] H := hP
  have hD : va_D A [(a_t, .inr (5, [.ref a_t_load, .ref a_t_text, .int p1_length, .int p1_fault, .int p1_faultPlace, .ref a_t_shelfWeights, .ref a_t_shelfProfits])), (a_p1, .inr (5, [.ref a_p1_load, .ref a_p1_text, .int p1_length, .int p1_fault, .int p1_faultPlace, .ref a_p1_shelfWeights, .ref a_p1_shelfProfits])), (a_p1_text, .inl (cy 2, 600, .inl p1_text)), (a_t_text, .inl (cy 2, 600, .inl (va_cpy p1_text t_text ((0 : Int32)).toNatClampNeg ((0 : Int32)).toNatClampNeg (p1_length).toNatClampNeg))), (a_t_shelfWeights, .inl (cy 0, 8, .inl t_shelfWeights)), (a_p1_shelfWeights, .inl (cy 0, 8, .inl p1_shelfWeights)), (a_t_shelfProfits, .inl (cy 0, 8, .inl t_shelfProfits)), (a_p1_shelfProfits, .inl (cy 0, 8, .inl p1_shelfProfits)), (a_t_load, .inr (1, [.ref a_t_load_weights, .ref a_t_load_profits, .int m8_0, .int m8_1, .int m8_2, .int m8_3])), (a_p1_load, .inr (1, [.ref a_p1_load_weights, .ref a_p1_load_profits, .int p1_load_items, .int p1_load_room, .int p1_load_most, .int p1_load_steps])), (a_p1_load_weights, .inl (cy 0, 60, .inl p1_load_weights)), (a_t_load_weights, .inl (cy 0, 60, .inl m8_4)), (a_p1_load_profits, .inl (cy 0, 60, .inl p1_load_profits)), (a_t_load_profits, .inl (cy 0, 60, .inl m8_5))] := hD
  refine lv_aload_n hx hb dX5_copyFrom_52 rfl (lv_at hl 1 rfl) ?_
  refine va_get (D := (dC, dI)) (ci := 5) (v := .ref a_p1_shelfWeights) (C := RX5) (T := TX5) (N := 7) hx hb hts iX5_copyFrom_X5 hown hK hP 1 rfl rfl 5 (Nat.le_of_ble_eq_true rfl) (hts _ kX5_copyFrom_8) (fun _ h9 => h9) rfl dX5_copyFrom_53 ?_
  refine lv_iconst (v := 0) hx hb dX5_copyFrom_56 (by decide) ?_
  refine lv_aload_n hx hb dX5_copyFrom_57 rfl (lv_at hl 0 rfl) ?_
  refine va_get (D := (dC, dI)) (ci := 5) (v := .ref a_t_shelfWeights) (C := RX5) (T := TX5) (N := 7) hx hb hts iX5_copyFrom_X5 hown hK hP 0 rfl rfl 5 (Nat.le_of_ble_eq_true rfl) (hts _ kX5_copyFrom_8) (fun _ h9 => h9) rfl dX5_copyFrom_58 ?_
  refine lv_iconst (v := 0) hx hb dX5_copyFrom_61 (by decide) ?_
  refine lv_aload_n hx hb dX5_copyFrom_62 rfl (lv_at hl 0 rfl) ?_
  refine va_get (D := (dC, dI)) (ci := 5) (v := .ref a_t_shelfWeights) (C := RX5) (T := TX5) (N := 7) hx hb hts iX5_copyFrom_X5 hown hK hP 0 rfl rfl 5 (Nat.le_of_ble_eq_true rfl) (hts _ kX5_copyFrom_8) (fun _ h9 => h9) rfl dX5_copyFrom_63 ?_
  refine va_alen (D := (dC, dI)) (v := (nI 8)) hx hb hK hP 4 0 rfl rfl rfl dX5_copyFrom_66 ?_
  refine va_copyi (D := (dC, dI)) hx hb (hml.trans hl.1.symm) hown (hts _ kX5_copyFrom_2) (hts _ kX5_copyFrom_3) (hts _ kX5_copyFrom_4) (hts _ kX5_copyFrom_5) hK hP hD hS 5 4 0 0 rfl rfl rfl rfl rfl (by decide) (by decide) h.1 h.2.1 h.2.2.1 (fun _ _ => rfl) (Nat.le_of_ble_eq_true rfl) (Nat.le_of_ble_eq_true rfl) dX5_copyFrom_67 (fun H locs hP hD hS => ?_)
  replace h := h.2.2.2
  have hP : va_P (dC, dI) vwCl [(a_t, .inr (5, [.ref a_t_load, .ref a_t_text, .int p1_length, .int p1_fault, .int p1_faultPlace, .ref a_t_shelfWeights, .ref a_t_shelfProfits])), (a_p1, .inr (5, [.ref a_p1_load, .ref a_p1_text, .int p1_length, .int p1_fault, .int p1_faultPlace, .ref a_p1_shelfWeights, .ref a_p1_shelfProfits])), (a_p1_text, .inl (cy 2, 600, .inl p1_text)), (a_t_text, .inl (cy 2, 600, .inl (va_cpy p1_text t_text ((0 : Int32)).toNatClampNeg ((0 : Int32)).toNatClampNeg (p1_length).toNatClampNeg))), (a_t_shelfWeights, .inl (cy 0, 8, .inl (va_cpy p1_shelfWeights t_shelfWeights ((0 : Int32)).toNatClampNeg ((0 : Int32)).toNatClampNeg ((nI 8)).toNatClampNeg))), (a_p1_shelfWeights, .inl (cy 0, 8, .inl p1_shelfWeights)), (a_t_shelfProfits, .inl (cy 0, 8, .inl t_shelfProfits)), (a_p1_shelfProfits, .inl (cy 0, 8, .inl p1_shelfProfits)), (a_t_load, .inr (1, [.ref a_t_load_weights, .ref a_t_load_profits, .int m8_0, .int m8_1, .int m8_2, .int m8_3])), (a_p1_load, .inr (1, [.ref a_p1_load_weights, .ref a_p1_load_profits, .int p1_load_items, .int p1_load_room, .int p1_load_most, .int p1_load_steps])), (a_p1_load_weights, .inl (cy 0, 60, .inl p1_load_weights)), (a_t_load_weights, .inl (cy 0, 60, .inl m8_4)), (a_p1_load_profits, .inl (cy 0, 60, .inl p1_load_profits)), (a_t_load_profits, .inl (cy 0, 60, .inl m8_5))] H := hP
  have hD : va_D A [(a_t, .inr (5, [.ref a_t_load, .ref a_t_text, .int p1_length, .int p1_fault, .int p1_faultPlace, .ref a_t_shelfWeights, .ref a_t_shelfProfits])), (a_p1, .inr (5, [.ref a_p1_load, .ref a_p1_text, .int p1_length, .int p1_fault, .int p1_faultPlace, .ref a_p1_shelfWeights, .ref a_p1_shelfProfits])), (a_p1_text, .inl (cy 2, 600, .inl p1_text)), (a_t_text, .inl (cy 2, 600, .inl (va_cpy p1_text t_text ((0 : Int32)).toNatClampNeg ((0 : Int32)).toNatClampNeg (p1_length).toNatClampNeg))), (a_t_shelfWeights, .inl (cy 0, 8, .inl (va_cpy p1_shelfWeights t_shelfWeights ((0 : Int32)).toNatClampNeg ((0 : Int32)).toNatClampNeg ((nI 8)).toNatClampNeg))), (a_p1_shelfWeights, .inl (cy 0, 8, .inl p1_shelfWeights)), (a_t_shelfProfits, .inl (cy 0, 8, .inl t_shelfProfits)), (a_p1_shelfProfits, .inl (cy 0, 8, .inl p1_shelfProfits)), (a_t_load, .inr (1, [.ref a_t_load_weights, .ref a_t_load_profits, .int m8_0, .int m8_1, .int m8_2, .int m8_3])), (a_p1_load, .inr (1, [.ref a_p1_load_weights, .ref a_p1_load_profits, .int p1_load_items, .int p1_load_room, .int p1_load_most, .int p1_load_steps])), (a_p1_load_weights, .inl (cy 0, 60, .inl p1_load_weights)), (a_t_load_weights, .inl (cy 0, 60, .inl m8_4)), (a_p1_load_profits, .inl (cy 0, 60, .inl p1_load_profits)), (a_t_load_profits, .inl (cy 0, 60, .inl m8_5))] := hD
  refine lv_aload_n hx hb dX5_copyFrom_70 rfl (lv_at hl 1 rfl) ?_
  refine va_get (D := (dC, dI)) (ci := 5) (v := .ref a_p1_shelfProfits) (C := RX5) (T := TX5) (N := 7) hx hb hts iX5_copyFrom_X5 hown hK hP 1 rfl rfl 6 (Nat.le_of_ble_eq_true rfl) (hts _ kX5_copyFrom_9) (fun _ h9 => h9) rfl dX5_copyFrom_71 ?_
  refine lv_iconst (v := 0) hx hb dX5_copyFrom_74 (by decide) ?_
  refine lv_aload_n hx hb dX5_copyFrom_75 rfl (lv_at hl 0 rfl) ?_
  refine va_get (D := (dC, dI)) (ci := 5) (v := .ref a_t_shelfProfits) (C := RX5) (T := TX5) (N := 7) hx hb hts iX5_copyFrom_X5 hown hK hP 0 rfl rfl 6 (Nat.le_of_ble_eq_true rfl) (hts _ kX5_copyFrom_9) (fun _ h9 => h9) rfl dX5_copyFrom_76 ?_
  refine lv_iconst (v := 0) hx hb dX5_copyFrom_79 (by decide) ?_
  refine lv_aload_n hx hb dX5_copyFrom_80 rfl (lv_at hl 0 rfl) ?_
  refine va_get (D := (dC, dI)) (ci := 5) (v := .ref a_t_shelfProfits) (C := RX5) (T := TX5) (N := 7) hx hb hts iX5_copyFrom_X5 hown hK hP 0 rfl rfl 6 (Nat.le_of_ble_eq_true rfl) (hts _ kX5_copyFrom_9) (fun _ h9 => h9) rfl dX5_copyFrom_81 ?_
  refine va_alen (D := (dC, dI)) (v := (nI 8)) hx hb hK hP 6 0 rfl rfl rfl dX5_copyFrom_84 ?_
  refine va_copyi (D := (dC, dI)) hx hb (hml.trans hl.1.symm) hown (hts _ kX5_copyFrom_2) (hts _ kX5_copyFrom_3) (hts _ kX5_copyFrom_4) (hts _ kX5_copyFrom_5) hK hP hD hS 7 6 0 0 rfl rfl rfl rfl rfl (by decide) (by decide) h.1 h.2.1 h.2.2.1 (fun _ _ => rfl) (Nat.le_of_ble_eq_true rfl) (Nat.le_of_ble_eq_true rfl) dX5_copyFrom_85 (fun H locs hP hD hS => ?_)
  replace h := h.2.2.2
  have hP : va_P (dC, dI) vwCl [(a_t, .inr (5, [.ref a_t_load, .ref a_t_text, .int p1_length, .int p1_fault, .int p1_faultPlace, .ref a_t_shelfWeights, .ref a_t_shelfProfits])), (a_p1, .inr (5, [.ref a_p1_load, .ref a_p1_text, .int p1_length, .int p1_fault, .int p1_faultPlace, .ref a_p1_shelfWeights, .ref a_p1_shelfProfits])), (a_p1_text, .inl (cy 2, 600, .inl p1_text)), (a_t_text, .inl (cy 2, 600, .inl (va_cpy p1_text t_text ((0 : Int32)).toNatClampNeg ((0 : Int32)).toNatClampNeg (p1_length).toNatClampNeg))), (a_t_shelfWeights, .inl (cy 0, 8, .inl (va_cpy p1_shelfWeights t_shelfWeights ((0 : Int32)).toNatClampNeg ((0 : Int32)).toNatClampNeg ((nI 8)).toNatClampNeg))), (a_p1_shelfWeights, .inl (cy 0, 8, .inl p1_shelfWeights)), (a_t_shelfProfits, .inl (cy 0, 8, .inl (va_cpy p1_shelfProfits t_shelfProfits ((0 : Int32)).toNatClampNeg ((0 : Int32)).toNatClampNeg ((nI 8)).toNatClampNeg))), (a_p1_shelfProfits, .inl (cy 0, 8, .inl p1_shelfProfits)), (a_t_load, .inr (1, [.ref a_t_load_weights, .ref a_t_load_profits, .int m8_0, .int m8_1, .int m8_2, .int m8_3])), (a_p1_load, .inr (1, [.ref a_p1_load_weights, .ref a_p1_load_profits, .int p1_load_items, .int p1_load_room, .int p1_load_most, .int p1_load_steps])), (a_p1_load_weights, .inl (cy 0, 60, .inl p1_load_weights)), (a_t_load_weights, .inl (cy 0, 60, .inl m8_4)), (a_p1_load_profits, .inl (cy 0, 60, .inl p1_load_profits)), (a_t_load_profits, .inl (cy 0, 60, .inl m8_5))] H := hP
  have hD : va_D A [(a_t, .inr (5, [.ref a_t_load, .ref a_t_text, .int p1_length, .int p1_fault, .int p1_faultPlace, .ref a_t_shelfWeights, .ref a_t_shelfProfits])), (a_p1, .inr (5, [.ref a_p1_load, .ref a_p1_text, .int p1_length, .int p1_fault, .int p1_faultPlace, .ref a_p1_shelfWeights, .ref a_p1_shelfProfits])), (a_p1_text, .inl (cy 2, 600, .inl p1_text)), (a_t_text, .inl (cy 2, 600, .inl (va_cpy p1_text t_text ((0 : Int32)).toNatClampNeg ((0 : Int32)).toNatClampNeg (p1_length).toNatClampNeg))), (a_t_shelfWeights, .inl (cy 0, 8, .inl (va_cpy p1_shelfWeights t_shelfWeights ((0 : Int32)).toNatClampNeg ((0 : Int32)).toNatClampNeg ((nI 8)).toNatClampNeg))), (a_p1_shelfWeights, .inl (cy 0, 8, .inl p1_shelfWeights)), (a_t_shelfProfits, .inl (cy 0, 8, .inl (va_cpy p1_shelfProfits t_shelfProfits ((0 : Int32)).toNatClampNeg ((0 : Int32)).toNatClampNeg ((nI 8)).toNatClampNeg))), (a_p1_shelfProfits, .inl (cy 0, 8, .inl p1_shelfProfits)), (a_t_load, .inr (1, [.ref a_t_load_weights, .ref a_t_load_profits, .int m8_0, .int m8_1, .int m8_2, .int m8_3])), (a_p1_load, .inr (1, [.ref a_p1_load_weights, .ref a_p1_load_profits, .int p1_load_items, .int p1_load_room, .int p1_load_most, .int p1_load_steps])), (a_p1_load_weights, .inl (cy 0, 60, .inl p1_load_weights)), (a_t_load_weights, .inl (cy 0, 60, .inl m8_4)), (a_p1_load_profits, .inl (cy 0, 60, .inl p1_load_profits)), (a_t_load_profits, .inl (cy 0, 60, .inl m8_5))] := hD
  rw [← hQ]
  exact W.vret hx hb hr (fun t ht hW => ⟨⟨(p1_length, p1_fault, p1_faultPlace, m8_0, m8_1, m8_2, m8_3, m8_4, m8_5, (va_cpy p1_text t_text ((0 : Int32)).toNatClampNeg ((0 : Int32)).toNatClampNeg (p1_length).toNatClampNeg), (va_cpy p1_shelfWeights t_shelfWeights ((0 : Int32)).toNatClampNeg ((0 : Int32)).toNatClampNeg ((nI 8)).toNatClampNeg), (va_cpy p1_shelfProfits t_shelfProfits ((0 : Int32)).toNatClampNeg ((0 : Int32)).toNatClampNeg ((nI 8)).toNatClampNeg)), rfl, (by dsimp only; exact h), x_end (w1 := [(a_t, .inr (5, [.ref a_t_load, .ref a_t_text, .int p1_length, .int p1_fault, .int p1_faultPlace, .ref a_t_shelfWeights, .ref a_t_shelfProfits])), (a_p1, .inr (5, [.ref a_p1_load, .ref a_p1_text, .int p1_length, .int p1_fault, .int p1_faultPlace, .ref a_p1_shelfWeights, .ref a_p1_shelfProfits])), (a_t_load, .inr (1, [.ref a_t_load_weights, .ref a_t_load_profits, .int m8_0, .int m8_1, .int m8_2, .int m8_3])), (a_p1_load, .inr (1, [.ref a_p1_load_weights, .ref a_p1_load_profits, .int p1_load_items, .int p1_load_room, .int p1_load_most, .int p1_load_steps])), (a_p1_load_weights, .inl (cy 0, 60, .inl p1_load_weights)), (a_t_load_weights, .inl (cy 0, 60, .inl m8_4)), (a_p1_load_profits, .inl (cy 0, 60, .inl p1_load_profits)), (a_t_load_profits, .inl (cy 0, 60, .inl m8_5)), (a_p1_text, .inl (cy 2, 600, .inl p1_text)), (a_t_text, .inl (cy 2, 600, .inl (va_cpy p1_text t_text ((0 : Int32)).toNatClampNeg ((0 : Int32)).toNatClampNeg (p1_length).toNatClampNeg))), (a_t_shelfWeights, .inl (cy 0, 8, .inl (va_cpy p1_shelfWeights t_shelfWeights ((0 : Int32)).toNatClampNeg ((0 : Int32)).toNatClampNeg ((nI 8)).toNatClampNeg))), (a_p1_shelfWeights, .inl (cy 0, 8, .inl p1_shelfWeights)), (a_t_shelfProfits, .inl (cy 0, 8, .inl (va_cpy p1_shelfProfits t_shelfProfits ((0 : Int32)).toNatClampNeg ((0 : Int32)).toNatClampNeg ((nI 8)).toNatClampNeg))), (a_p1_shelfProfits, .inl (cy 0, 8, .inl p1_shelfProfits))]) hP hD hK [0, 1, 8, 9, 10, 11, 12, 13, 2, 3, 4, 5, 6, 7] rfl (by decide) (by first | exact rfl | (dsimp only; exact rfl)) ht hW⟩, hS.F ht⟩) hS.2.2 dX5_copyFrom_88

/-- KnapsackCore.best()J -/
def wX6_best (t_core_bestBits : Int64) (post : Int64 → Prop)  : Prop :=
  post t_core_bestBits
theorem kX6_best_0 : Cond.fieldLink RX6 30 "KnapsackCore" "core" "LKnapsackCore$Core;" ∈ wsX6_best := (List.mem_cons_of_mem _ (List.mem_append_left _ (List.mem_append_left _ (List.mem_of_getElem? (i := 0) rfl))))
theorem kX6_best_1 : Cond.fieldLink RX6 255 "KnapsackCore$Core" "bestBits" "J" ∈ wsX6_best := (List.mem_cons_of_mem _ (List.mem_append_left _ (List.mem_append_left _ (List.mem_of_getElem? (i := 1) rfl))))
theorem iX6_best_X6 : ∀ w ∈ u_ws RX6 TX6 11, w ∈ wsX6_best := fun w h => (List.mem_cons_of_mem _ (List.mem_append_left _ (List.mem_append_right _ h)))
theorem iX6_best_X0 : ∀ w ∈ u_ws RX0 TX0 10, w ∈ wsX6_best := fun w h => (List.mem_cons_of_mem _ (List.mem_append_right _ h))
set_option maxHeartbeats 4000000 in
set_option maxRecDepth 100000 in
theorem mtX6_best (l : Launch) (ad : (Nat → Nat) × (Nat → Nat)) (dC : Nat → ClassId) (dI : Nat → Nat → Nat) (cy : Nat → ClassId) (a_t a_t_now a_t_images a_t_past a_t_core a_t_supposed a_t_trial a_t_reader a_t_front a_t_frontSpare a_t_core_ranked a_t_core_sets a_t_core_spare : Nat) (sz : Nat) (t_acts t_frontState t_core_most t_core_from t_core_to t_core_steps t_core_bestWeight t_core_bestProfit : Int32) (t_core_bestBits : Int64) {post : Int64 → Prop} (h : wX6_best t_core_bestBits post) : xMl l yX6_best wsX6_best ({ frames := 0, cells := 0, slots := 0, locals := 0 } : Room) ad (dC, dI) vwCl (xT cy) [.ref a_t] [(a_t, .inr (6, [.ref a_t_now, .ref a_t_images, .ref a_t_past, .int t_acts, .ref a_t_core, .ref a_t_supposed, .ref a_t_trial, .ref a_t_reader, .ref a_t_front, .ref a_t_frontSpare, .int t_frontState])), (a_t_core, .inr (0, [.ref a_t_core_ranked, .ref a_t_core_sets, .ref a_t_core_spare, .int t_core_most, .int t_core_from, .int t_core_to, .int t_core_steps, .int t_core_bestWeight, .int t_core_bestProfit, .long t_core_bestBits]))] sz (fun (r : Int64) (_ : Unit) => post r) (fun (_ : Unit) w => w = [(a_t, .inr (6, [.ref a_t_now, .ref a_t_images, .ref a_t_past, .int t_acts, .ref a_t_core, .ref a_t_supposed, .ref a_t_trial, .ref a_t_reader, .ref a_t_front, .ref a_t_frontSpare, .int t_frontState])), (a_t_core, .inr (0, [.ref a_t_core_ranked, .ref a_t_core_sets, .ref a_t_core_spare, .int t_core_most, .int t_core_from, .int t_core_to, .int t_core_steps, .int t_core_bestWeight, .int t_core_bestProfit, .long t_core_bestBits]))]) 0 0 := by
  unfold xMl
  refine Met.ofW (cc := cX6_best) (maxL := 1) (ret := (some .long)) (by decide +kernel) rfl ?_
  intro p e s m args below meth c s₁ B hml hv
  obtain ⟨rfl, hsz, hP, hK, hD0, hE⟩ := hv
  have hx := B.exec
  have hb := B.bytes
  have hr := B.returns
  have hts := atoms_spec (ws := wsX6_best) B.pre
  have hown : s.vm.findClass RX6 = some m.cls := findClass_of_methodNamed B.named
  have hlocks := B.notSynchronized
  subst hsz
  have hD := hD0.self (sz := s.heap.size)
  generalize hAe : va_A [(a_t, .inr (6, [.ref a_t_now, .ref a_t_images, .ref a_t_past, .int t_acts, .ref a_t_core, .ref a_t_supposed, .ref a_t_trial, .ref a_t_reader, .ref a_t_front, .ref a_t_frontSpare, .int t_frontState])), (a_t_core, .inr (0, [.ref a_t_core_ranked, .ref a_t_core_sets, .ref a_t_core_spare, .int t_core_most, .int t_core_from, .int t_core_to, .int t_core_steps, .int t_core_bestWeight, .int t_core_bestProfit, .long t_core_bestBits]))] s.heap.size = A at hD hE ⊢
  have hA : ∀ q : Nat, s.heap.size ≤ q → A q := fun q h => by rw [← hAe]; exact Or.inr h
  have hS : va_S A s.heap s.heap [] := va_S.rf
  have hl := lv_entry ([.ref a_t]) (n := 1) (Nat.le_of_ble_eq_true rfl)
  rw [lg_entry_eq]
  generalize (lg_sl ([.ref a_t]) ++ List.replicate (1 - (lg_sl ([.ref a_t])).length) Slot.unset).toArray = ls at hl ⊢
  have hl : lv_has ls 1 [(0, .ref a_t)] := hl
  generalize hQ : MQ below _ _ s _ _ _ = Q
  generalize ([.ref a_t] : List Value).toArray = args at hts hQ ⊢
  clear B hD0 hAe
  refine lv_aload_n hx hb dX6_best_0 rfl (lv_at hl 0 rfl) ?_
  refine va_get (D := (dC, dI)) (ci := 6) (v := .ref a_t_core) (C := RX6) (T := TX6) (N := 11) hx hb hts iX6_best_X6 hown hK hP 0 rfl rfl 4 (Nat.le_of_ble_eq_true rfl) (hts _ kX6_best_0) (fun _ h9 => h9) rfl dX6_best_1 ?_
  refine va_get (D := (dC, dI)) (ci := 0) (v := .long t_core_bestBits) (C := RX0) (T := TX0) (N := 10) hx hb hts iX6_best_X0 hown hK hP 1 rfl rfl 9 (Nat.le_of_ble_eq_true rfl) (hts _ kX6_best_1) (fun _ h9 => h9) rfl dX6_best_4 ?_
  rw [← hQ]
  exact W.lret (v := t_core_bestBits) hx hb hr (fun t ht hW => ⟨⟨t_core_bestBits, (), rfl, h, x_end (w1 := [(a_t, .inr (6, [.ref a_t_now, .ref a_t_images, .ref a_t_past, .int t_acts, .ref a_t_core, .ref a_t_supposed, .ref a_t_trial, .ref a_t_reader, .ref a_t_front, .ref a_t_frontSpare, .int t_frontState])), (a_t_core, .inr (0, [.ref a_t_core_ranked, .ref a_t_core_sets, .ref a_t_core_spare, .int t_core_most, .int t_core_from, .int t_core_to, .int t_core_steps, .int t_core_bestWeight, .int t_core_bestProfit, .long t_core_bestBits]))]) hP hD hK [0, 1] rfl (by decide) rfl ht hW⟩, hS.F ht⟩) hS.2.2 dX6_best_7

theorem qX0_bestHas : yX0_bestHas.cls = RX0 ∧ yX0_bestHas.cls ≠ "java/lang/invoke/MethodHandle" ∧ yX0_bestHas.cls ≠ "java/lang/invoke/VarHandle" ∧ (parseMethodDescriptor yX0_bestHas.desc).map (fun d => d.parameters.length) = some 1 := by decide +kernel
def wX6_bestInsteadOf_98 (t_core_bestWeight : Int32) (t_core_bestBits : Int64) (t_core_ranked_items t_core_ranked_room : Int32) (t_core_ranked_weights t_core_ranked_profits : Nat → Int32) (K37 : Int64 → Int32 → Int32 → Prop) (post : Int32 → Prop) (v3 : Int64) (v5 v6 : Int32) : Prop :=
  K37 v3 v5 (v6 + (1 : Int32))
def wX6_bestInsteadOf_94 (t_core_bestWeight : Int32) (t_core_bestBits : Int64) (t_core_ranked_items t_core_ranked_room : Int32) (t_core_ranked_weights t_core_ranked_profits : Nat → Int32) (K37 : Int64 → Int32 → Int32 → Prop) (post : Int32 → Prop) (v3 : Int64) (v6 : Int32) : Prop :=
  wX6_bestInsteadOf_98 t_core_bestWeight t_core_bestBits t_core_ranked_items t_core_ranked_room t_core_ranked_weights t_core_ranked_profits K37 post v3 v6 v6
def wX6_bestInsteadOf_55 (t_core_bestWeight : Int32) (t_core_bestBits : Int64) (t_core_ranked_items t_core_ranked_room : Int32) (t_core_ranked_weights t_core_ranked_profits : Nat → Int32) (K37 : Int64 → Int32 → Int32 → Prop) (post : Int32 → Prop) (v3 : Int64) (v5 v6 k0 : Int32) : Prop :=
  (k0 = (0 : Int32) → vp_in v6 60 ∧ (v3 < ((t_core_ranked_weights (v6).toNatClampNeg)).toInt64 → wX6_bestInsteadOf_98 t_core_bestWeight t_core_bestBits t_core_ranked_items t_core_ranked_room t_core_ranked_weights t_core_ranked_profits K37 post v3 v5 v6) ∧ (¬ v3 < ((t_core_ranked_weights (v6).toNatClampNeg)).toInt64 → (v5 = (-1 : Int32) → wX6_bestInsteadOf_94 t_core_bestWeight t_core_bestBits t_core_ranked_items t_core_ranked_room t_core_ranked_weights t_core_ranked_profits K37 post v3 v6) ∧ (¬ v5 = (-1 : Int32) → vp_in v6 60 ∧ vp_in v5 60 ∧ ((t_core_ranked_profits (v6).toNatClampNeg) ≤ (t_core_ranked_profits (v5).toNatClampNeg) → wX6_bestInsteadOf_98 t_core_bestWeight t_core_bestBits t_core_ranked_items t_core_ranked_room t_core_ranked_weights t_core_ranked_profits K37 post v3 v5 v6) ∧ (¬ (t_core_ranked_profits (v6).toNatClampNeg) ≤ (t_core_ranked_profits (v5).toNatClampNeg) → wX6_bestInsteadOf_94 t_core_bestWeight t_core_bestBits t_core_ranked_items t_core_ranked_room t_core_ranked_weights t_core_ranked_profits K37 post v3 v6)))) ∧ (¬ k0 = (0 : Int32) → wX6_bestInsteadOf_98 t_core_bestWeight t_core_bestBits t_core_ranked_items t_core_ranked_room t_core_ranked_weights t_core_ranked_profits K37 post v3 v5 v6)
def wX6_bestInsteadOf_37_b (t_core_bestWeight : Int32) (t_core_bestBits : Int64) (t_core_ranked_items t_core_ranked_room : Int32) (t_core_ranked_weights t_core_ranked_profits : Nat → Int32) (post : Int32 → Prop) (K37 : Int64 → Int32 → Int32 → Prop) (v3 : Int64) (v5 v6 : Int32) : Prop :=
  (t_core_ranked_items ≤ v6 → post v5) ∧ (¬ t_core_ranked_items ≤ v6 → wX0_bestHas t_core_bestBits t_core_ranked_items (fun r52 => wX6_bestInsteadOf_55 t_core_bestWeight t_core_bestBits t_core_ranked_items t_core_ranked_room t_core_ranked_weights t_core_ranked_profits K37 post v3 v5 v6 r52) v6)
def wX6_bestInsteadOf_37 (t_core_bestWeight : Int32) (t_core_bestBits : Int64) (t_core_ranked_items t_core_ranked_room : Int32) (t_core_ranked_weights t_core_ranked_profits : Nat → Int32) (post : Int32 → Prop) : Nat → Int64 → Int32 → Int32 → Prop
  | 0 => fun _ _ _ => False
  | n + 1 => wX6_bestInsteadOf_37_b t_core_bestWeight t_core_bestBits t_core_ranked_items t_core_ranked_room t_core_ranked_weights t_core_ranked_profits post (wX6_bestInsteadOf_37 t_core_bestWeight t_core_bestBits t_core_ranked_items t_core_ranked_room t_core_ranked_weights t_core_ranked_profits post n)
/-- KnapsackCore.bestInsteadOf(I)I -/
def wX6_bestInsteadOf (t_core_bestWeight : Int32) (t_core_bestBits : Int64) (t_core_ranked_items t_core_ranked_room : Int32) (t_core_ranked_weights t_core_ranked_profits : Nat → Int32) (post : Int32 → Prop) (v1 : Int32) : Prop :=
  vp_in v1 60 ∧ ∃ n : Nat, wX6_bestInsteadOf_37 t_core_bestWeight t_core_bestBits t_core_ranked_items t_core_ranked_room t_core_ranked_weights t_core_ranked_profits post n (((t_core_ranked_room).toInt64 - (t_core_bestWeight).toInt64) + ((t_core_ranked_weights (v1).toNatClampNeg)).toInt64) (-1 : Int32) (0 : Int32)
theorem kX6_bestInsteadOf_0 : Cond.fieldLink RX6 272 "KnapsackCore$Ranked" "weights" "[I" ∈ wsX6_bestInsteadOf := (List.mem_cons_of_mem _ (List.mem_append_left _ (List.mem_append_left _ (List.mem_append_left _ (List.mem_of_getElem? (i := 4) rfl)))))
theorem kX6_bestInsteadOf_1 : Cond.fieldLink RX6 274 "KnapsackCore$Ranked" "profits" "[I" ∈ wsX6_bestInsteadOf := (List.mem_cons_of_mem _ (List.mem_append_left _ (List.mem_append_left _ (List.mem_append_left _ (List.mem_of_getElem? (i := 6) rfl)))))
theorem kX6_bestInsteadOf_2 : Cond.fieldLink RX6 271 "KnapsackCore$Ranked" "items" "I" ∈ wsX6_bestInsteadOf := (List.mem_cons_of_mem _ (List.mem_append_left _ (List.mem_append_left _ (List.mem_append_left _ (List.mem_of_getElem? (i := 5) rfl)))))
theorem kX6_bestInsteadOf_3 : Cond.fieldLink RX6 30 "KnapsackCore" "core" "LKnapsackCore$Core;" ∈ wsX6_bestInsteadOf := (List.mem_cons_of_mem _ (List.mem_append_left _ (List.mem_append_left _ (List.mem_append_left _ (List.mem_of_getElem? (i := 0) rfl)))))
theorem kX6_bestInsteadOf_4 : Cond.fieldLink RX6 157 "KnapsackCore$Core" "ranked" "LKnapsackCore$Ranked;" ∈ wsX6_bestInsteadOf := (List.mem_cons_of_mem _ (List.mem_append_left _ (List.mem_append_left _ (List.mem_append_left _ (List.mem_of_getElem? (i := 1) rfl)))))
theorem kX6_bestInsteadOf_5 : Cond.fieldLink RX6 273 "KnapsackCore$Ranked" "room" "I" ∈ wsX6_bestInsteadOf := (List.mem_cons_of_mem _ (List.mem_append_left _ (List.mem_append_left _ (List.mem_append_left _ (List.mem_of_getElem? (i := 2) rfl)))))
theorem kX6_bestInsteadOf_6 : Cond.fieldLink RX6 184 "KnapsackCore$Core" "bestWeight" "I" ∈ wsX6_bestInsteadOf := (List.mem_cons_of_mem _ (List.mem_append_left _ (List.mem_append_left _ (List.mem_append_left _ (List.mem_of_getElem? (i := 3) rfl)))))
theorem iX6_bestInsteadOf_X2 : ∀ w ∈ u_ws RX2 TX2 9, w ∈ wsX6_bestInsteadOf := fun w h => (List.mem_cons_of_mem _ (List.mem_append_right _ h))
theorem iX6_bestInsteadOf_X6 : ∀ w ∈ u_ws RX6 TX6 11, w ∈ wsX6_bestInsteadOf := fun w h => (List.mem_cons_of_mem _ (List.mem_append_left _ (List.mem_append_left _ (List.mem_append_right _ h))))
theorem iX6_bestInsteadOf_X0 : ∀ w ∈ u_ws RX0 TX0 10, w ∈ wsX6_bestInsteadOf := fun w h => (List.mem_cons_of_mem _ (List.mem_append_left _ (List.mem_append_right _ h)))
set_option maxHeartbeats 4000000 in
set_option maxRecDepth 100000 in
theorem mtX6_bestInsteadOf (l : Launch) (ad : (Nat → Nat) × (Nat → Nat)) (dC : Nat → ClassId) (dI : Nat → Nat → Nat) (cy : Nat → ClassId) (a_t a_t_now a_t_images a_t_past a_t_core a_t_supposed a_t_trial a_t_reader a_t_front a_t_frontSpare a_t_core_ranked a_t_core_sets a_t_core_spare a_t_core_ranked_itemAt a_t_core_ranked_placeOf a_t_core_ranked_weights a_t_core_ranked_profits : Nat) (sz : Nat) (t_acts t_frontState t_core_most t_core_from t_core_to t_core_steps t_core_bestWeight t_core_bestProfit : Int32) (t_core_bestBits : Int64) (t_core_ranked_items t_core_ranked_room t_core_ranked_breakPlace t_core_ranked_breakWeight t_core_ranked_breakProfit : Int32) (t_core_ranked_weights t_core_ranked_profits : Nat → Int32) (v1 : Int32) {post : Int32 → Prop} (h : wX6_bestInsteadOf t_core_bestWeight t_core_bestBits t_core_ranked_items t_core_ranked_room t_core_ranked_weights t_core_ranked_profits post v1) : xMi l yX6_bestInsteadOf wsX6_bestInsteadOf ({ frames := 1, cells := 0, slots := 0, locals := 21 } : Room) ad (dC, dI) vwCl (xT cy) [.ref a_t, .int v1] [(a_t, .inr (6, [.ref a_t_now, .ref a_t_images, .ref a_t_past, .int t_acts, .ref a_t_core, .ref a_t_supposed, .ref a_t_trial, .ref a_t_reader, .ref a_t_front, .ref a_t_frontSpare, .int t_frontState])), (a_t_core, .inr (0, [.ref a_t_core_ranked, .ref a_t_core_sets, .ref a_t_core_spare, .int t_core_most, .int t_core_from, .int t_core_to, .int t_core_steps, .int t_core_bestWeight, .int t_core_bestProfit, .long t_core_bestBits])), (a_t_core_ranked, .inr (2, [.ref a_t_core_ranked_itemAt, .ref a_t_core_ranked_placeOf, .ref a_t_core_ranked_weights, .ref a_t_core_ranked_profits, .int t_core_ranked_items, .int t_core_ranked_room, .int t_core_ranked_breakPlace, .int t_core_ranked_breakWeight, .int t_core_ranked_breakProfit])), (a_t_core_ranked_weights, .inl (cy 0, 60, .inl t_core_ranked_weights)), (a_t_core_ranked_profits, .inl (cy 0, 60, .inl t_core_ranked_profits))] sz (fun (r : Int32) (_ : Unit) => post r) (fun (_ : Unit) w => w = [(a_t, .inr (6, [.ref a_t_now, .ref a_t_images, .ref a_t_past, .int t_acts, .ref a_t_core, .ref a_t_supposed, .ref a_t_trial, .ref a_t_reader, .ref a_t_front, .ref a_t_frontSpare, .int t_frontState])), (a_t_core, .inr (0, [.ref a_t_core_ranked, .ref a_t_core_sets, .ref a_t_core_spare, .int t_core_most, .int t_core_from, .int t_core_to, .int t_core_steps, .int t_core_bestWeight, .int t_core_bestProfit, .long t_core_bestBits])), (a_t_core_ranked, .inr (2, [.ref a_t_core_ranked_itemAt, .ref a_t_core_ranked_placeOf, .ref a_t_core_ranked_weights, .ref a_t_core_ranked_profits, .int t_core_ranked_items, .int t_core_ranked_room, .int t_core_ranked_breakPlace, .int t_core_ranked_breakWeight, .int t_core_ranked_breakProfit])), (a_t_core_ranked_weights, .inl (cy 0, 60, .inl t_core_ranked_weights)), (a_t_core_ranked_profits, .inl (cy 0, 60, .inl t_core_ranked_profits))]) 0 0 := by
  unfold xMi
  refine Met.ofW (cc := cX6_bestInsteadOf) (maxL := 7) (ret := (some .int)) (by decide +kernel) rfl ?_
  intro p e s m args below meth c s₁ B hml hv
  obtain ⟨rfl, hsz, hP, hK, hD0, hE⟩ := hv
  have hx := B.exec
  have hb := B.bytes
  have hr := B.returns
  have hts := atoms_spec (ws := wsX6_bestInsteadOf) B.pre
  have hown : s.vm.findClass RX6 = some m.cls := findClass_of_methodNamed B.named
  have hlocks := B.notSynchronized
  subst hsz
  have hD := hD0.self (sz := s.heap.size)
  generalize hAe : va_A [(a_t, .inr (6, [.ref a_t_now, .ref a_t_images, .ref a_t_past, .int t_acts, .ref a_t_core, .ref a_t_supposed, .ref a_t_trial, .ref a_t_reader, .ref a_t_front, .ref a_t_frontSpare, .int t_frontState])), (a_t_core, .inr (0, [.ref a_t_core_ranked, .ref a_t_core_sets, .ref a_t_core_spare, .int t_core_most, .int t_core_from, .int t_core_to, .int t_core_steps, .int t_core_bestWeight, .int t_core_bestProfit, .long t_core_bestBits])), (a_t_core_ranked, .inr (2, [.ref a_t_core_ranked_itemAt, .ref a_t_core_ranked_placeOf, .ref a_t_core_ranked_weights, .ref a_t_core_ranked_profits, .int t_core_ranked_items, .int t_core_ranked_room, .int t_core_ranked_breakPlace, .int t_core_ranked_breakWeight, .int t_core_ranked_breakProfit])), (a_t_core_ranked_weights, .inl (cy 0, 60, .inl t_core_ranked_weights)), (a_t_core_ranked_profits, .inl (cy 0, 60, .inl t_core_ranked_profits))] s.heap.size = A at hD hE ⊢
  have hA : ∀ q : Nat, s.heap.size ≤ q → A q := fun q h => by rw [← hAe]; exact Or.inr h
  have hS : va_S A s.heap s.heap [] := va_S.rf
  have hl := lv_entry ([.ref a_t, .int v1]) (n := 7) (Nat.le_of_ble_eq_true rfl)
  rw [lg_entry_eq]
  generalize (lg_sl ([.ref a_t, .int v1]) ++ List.replicate (7 - (lg_sl ([.ref a_t, .int v1])).length) Slot.unset).toArray = ls at hl ⊢
  have hl : lv_has ls 7 [(0, .ref a_t), (1, .int v1)] := hl
  generalize hQ : MQ below _ _ s _ _ _ = Q
  generalize ([.ref a_t, .int v1] : List Value).toArray = args at hts hQ ⊢
  clear B hD0 hAe
  have L37 : ∀ n : Nat, ∀ (v3 : Int64) (v5 v6 : Int32), wX6_bestInsteadOf_37 t_core_bestWeight t_core_bestBits t_core_ranked_items t_core_ranked_room t_core_ranked_weights t_core_ranked_profits post n v3 v5 v6 → ∀ (H : Heap) (locs : List Loc) (ls : Array Slot), va_P (dC, dI) vwCl [(a_t, .inr (6, [.ref a_t_now, .ref a_t_images, .ref a_t_past, .int t_acts, .ref a_t_core, .ref a_t_supposed, .ref a_t_trial, .ref a_t_reader, .ref a_t_front, .ref a_t_frontSpare, .int t_frontState])), (a_t_core, .inr (0, [.ref a_t_core_ranked, .ref a_t_core_sets, .ref a_t_core_spare, .int t_core_most, .int t_core_from, .int t_core_to, .int t_core_steps, .int t_core_bestWeight, .int t_core_bestProfit, .long t_core_bestBits])), (a_t_core_ranked, .inr (2, [.ref a_t_core_ranked_itemAt, .ref a_t_core_ranked_placeOf, .ref a_t_core_ranked_weights, .ref a_t_core_ranked_profits, .int t_core_ranked_items, .int t_core_ranked_room, .int t_core_ranked_breakPlace, .int t_core_ranked_breakWeight, .int t_core_ranked_breakProfit])), (a_t_core_ranked_weights, .inl (cy 0, 60, .inl t_core_ranked_weights)), (a_t_core_ranked_profits, .inl (cy 0, 60, .inl t_core_ranked_profits))] H → va_D A [(a_t, .inr (6, [.ref a_t_now, .ref a_t_images, .ref a_t_past, .int t_acts, .ref a_t_core, .ref a_t_supposed, .ref a_t_trial, .ref a_t_reader, .ref a_t_front, .ref a_t_frontSpare, .int t_frontState])), (a_t_core, .inr (0, [.ref a_t_core_ranked, .ref a_t_core_sets, .ref a_t_core_spare, .int t_core_most, .int t_core_from, .int t_core_to, .int t_core_steps, .int t_core_bestWeight, .int t_core_bestProfit, .long t_core_bestBits])), (a_t_core_ranked, .inr (2, [.ref a_t_core_ranked_itemAt, .ref a_t_core_ranked_placeOf, .ref a_t_core_ranked_weights, .ref a_t_core_ranked_profits, .int t_core_ranked_items, .int t_core_ranked_room, .int t_core_ranked_breakPlace, .int t_core_ranked_breakWeight, .int t_core_ranked_breakProfit])), (a_t_core_ranked_weights, .inl (cy 0, 60, .inl t_core_ranked_weights)), (a_t_core_ranked_profits, .inl (cy 0, 60, .inl t_core_ranked_profits))] → va_S A s.heap H locs → lv_has ls 7 [(0, .ref a_t), (2, .ref a_t_core_ranked), (3, .long v3), (5, .int v5), (6, .int v6)] → W p l e (headSpec wsX6_bestInsteadOf ({ frames := 1, cells := 0, slots := 0, locals := 21 } : Room)).room s m args below meth c H locs 0 0 Q (F0 m 37 ls []) := by
    intro n
    induction n with
    | zero => intro v3 v5 v6 h; exact False.elim h
    | succ n37 ih37 =>
      have C98 : ∀ (v3 : Int64) (v5 v6 : Int32), wX6_bestInsteadOf_98 t_core_bestWeight t_core_bestBits t_core_ranked_items t_core_ranked_room t_core_ranked_weights t_core_ranked_profits (wX6_bestInsteadOf_37 t_core_bestWeight t_core_bestBits t_core_ranked_items t_core_ranked_room t_core_ranked_weights t_core_ranked_profits post n37) post v3 v5 v6 → ∀ (H : Heap) (locs : List Loc) (ls : Array Slot), va_P (dC, dI) vwCl [(a_t, .inr (6, [.ref a_t_now, .ref a_t_images, .ref a_t_past, .int t_acts, .ref a_t_core, .ref a_t_supposed, .ref a_t_trial, .ref a_t_reader, .ref a_t_front, .ref a_t_frontSpare, .int t_frontState])), (a_t_core, .inr (0, [.ref a_t_core_ranked, .ref a_t_core_sets, .ref a_t_core_spare, .int t_core_most, .int t_core_from, .int t_core_to, .int t_core_steps, .int t_core_bestWeight, .int t_core_bestProfit, .long t_core_bestBits])), (a_t_core_ranked, .inr (2, [.ref a_t_core_ranked_itemAt, .ref a_t_core_ranked_placeOf, .ref a_t_core_ranked_weights, .ref a_t_core_ranked_profits, .int t_core_ranked_items, .int t_core_ranked_room, .int t_core_ranked_breakPlace, .int t_core_ranked_breakWeight, .int t_core_ranked_breakProfit])), (a_t_core_ranked_weights, .inl (cy 0, 60, .inl t_core_ranked_weights)), (a_t_core_ranked_profits, .inl (cy 0, 60, .inl t_core_ranked_profits))] H → va_D A [(a_t, .inr (6, [.ref a_t_now, .ref a_t_images, .ref a_t_past, .int t_acts, .ref a_t_core, .ref a_t_supposed, .ref a_t_trial, .ref a_t_reader, .ref a_t_front, .ref a_t_frontSpare, .int t_frontState])), (a_t_core, .inr (0, [.ref a_t_core_ranked, .ref a_t_core_sets, .ref a_t_core_spare, .int t_core_most, .int t_core_from, .int t_core_to, .int t_core_steps, .int t_core_bestWeight, .int t_core_bestProfit, .long t_core_bestBits])), (a_t_core_ranked, .inr (2, [.ref a_t_core_ranked_itemAt, .ref a_t_core_ranked_placeOf, .ref a_t_core_ranked_weights, .ref a_t_core_ranked_profits, .int t_core_ranked_items, .int t_core_ranked_room, .int t_core_ranked_breakPlace, .int t_core_ranked_breakWeight, .int t_core_ranked_breakProfit])), (a_t_core_ranked_weights, .inl (cy 0, 60, .inl t_core_ranked_weights)), (a_t_core_ranked_profits, .inl (cy 0, 60, .inl t_core_ranked_profits))] → va_S A s.heap H locs → lv_has ls 7 [(0, .ref a_t), (2, .ref a_t_core_ranked), (3, .long v3), (5, .int v5), (6, .int v6)] → W p l e (headSpec wsX6_bestInsteadOf ({ frames := 1, cells := 0, slots := 0, locals := 21 } : Room)).room s m args below meth c H locs 0 0 Q (F0 m 98 ls []) := by
        intro v3 v5 v6 h H locs ls hP hD hS hl
        refine lv_iinc (v := (v6 + (1 : Int32))) (lv' := [(6, .int (v6 + (1 : Int32))), (0, .ref a_t), (2, .ref a_t_core_ranked), (3, .long v3), (5, .int v5)]) hx hb dX6_bestInsteadOf_98 hl (k := 4) rfl rfl (by decide) rfl (fun ls hl => ?_)
        refine lv_goto (tgt := 37) hx hb dX6_bestInsteadOf_101 (by decide) ?_
        exact ih37 v3 v5 (v6 + (1 : Int32)) h _ _ _ (x_sub hP [0, 1, 2, 3, 4] rfl) (hD.sub [0, 1, 2, 3, 4] (by decide) rfl) hS (lv_sub hl [1, 2, 3, 4, 0] rfl)
      have C94 : ∀ (v3 : Int64) (v6 : Int32), wX6_bestInsteadOf_94 t_core_bestWeight t_core_bestBits t_core_ranked_items t_core_ranked_room t_core_ranked_weights t_core_ranked_profits (wX6_bestInsteadOf_37 t_core_bestWeight t_core_bestBits t_core_ranked_items t_core_ranked_room t_core_ranked_weights t_core_ranked_profits post n37) post v3 v6 → ∀ (H : Heap) (locs : List Loc) (ls : Array Slot), va_P (dC, dI) vwCl [(a_t, .inr (6, [.ref a_t_now, .ref a_t_images, .ref a_t_past, .int t_acts, .ref a_t_core, .ref a_t_supposed, .ref a_t_trial, .ref a_t_reader, .ref a_t_front, .ref a_t_frontSpare, .int t_frontState])), (a_t_core, .inr (0, [.ref a_t_core_ranked, .ref a_t_core_sets, .ref a_t_core_spare, .int t_core_most, .int t_core_from, .int t_core_to, .int t_core_steps, .int t_core_bestWeight, .int t_core_bestProfit, .long t_core_bestBits])), (a_t_core_ranked, .inr (2, [.ref a_t_core_ranked_itemAt, .ref a_t_core_ranked_placeOf, .ref a_t_core_ranked_weights, .ref a_t_core_ranked_profits, .int t_core_ranked_items, .int t_core_ranked_room, .int t_core_ranked_breakPlace, .int t_core_ranked_breakWeight, .int t_core_ranked_breakProfit])), (a_t_core_ranked_weights, .inl (cy 0, 60, .inl t_core_ranked_weights)), (a_t_core_ranked_profits, .inl (cy 0, 60, .inl t_core_ranked_profits))] H → va_D A [(a_t, .inr (6, [.ref a_t_now, .ref a_t_images, .ref a_t_past, .int t_acts, .ref a_t_core, .ref a_t_supposed, .ref a_t_trial, .ref a_t_reader, .ref a_t_front, .ref a_t_frontSpare, .int t_frontState])), (a_t_core, .inr (0, [.ref a_t_core_ranked, .ref a_t_core_sets, .ref a_t_core_spare, .int t_core_most, .int t_core_from, .int t_core_to, .int t_core_steps, .int t_core_bestWeight, .int t_core_bestProfit, .long t_core_bestBits])), (a_t_core_ranked, .inr (2, [.ref a_t_core_ranked_itemAt, .ref a_t_core_ranked_placeOf, .ref a_t_core_ranked_weights, .ref a_t_core_ranked_profits, .int t_core_ranked_items, .int t_core_ranked_room, .int t_core_ranked_breakPlace, .int t_core_ranked_breakWeight, .int t_core_ranked_breakProfit])), (a_t_core_ranked_weights, .inl (cy 0, 60, .inl t_core_ranked_weights)), (a_t_core_ranked_profits, .inl (cy 0, 60, .inl t_core_ranked_profits))] → va_S A s.heap H locs → lv_has ls 7 [(0, .ref a_t), (2, .ref a_t_core_ranked), (3, .long v3), (6, .int v6)] → W p l e (headSpec wsX6_bestInsteadOf ({ frames := 1, cells := 0, slots := 0, locals := 21 } : Room)).room s m args below meth c H locs 0 0 Q (F0 m 94 ls []) := by
        intro v3 v6 h H locs ls hP hD hS hl
        refine lv_iload hx hb dX6_bestInsteadOf_94 (lv_at hl 3 rfl) ?_
        refine lv_istore (lv' := [(5, .int v6), (0, .ref a_t), (2, .ref a_t_core_ranked), (3, .long v3), (6, .int v6)]) hx hb dX6_bestInsteadOf_96 hl (by decide) rfl (fun ls hl => ?_)
        exact C98 v3 v6 v6 h _ _ _ (x_sub hP [0, 1, 2, 3, 4] rfl) (hD.sub [0, 1, 2, 3, 4] (by decide) rfl) hS (lv_sub hl [1, 2, 3, 0, 4] rfl)
      intro v3 v5 v6 h H locs ls hP hD hS hl
      replace h : wX6_bestInsteadOf_37_b t_core_bestWeight t_core_bestBits t_core_ranked_items t_core_ranked_room t_core_ranked_weights t_core_ranked_profits post (wX6_bestInsteadOf_37 t_core_bestWeight t_core_bestBits t_core_ranked_items t_core_ranked_room t_core_ranked_weights t_core_ranked_profits post n37) v3 v5 v6 := h
      refine lv_iload hx hb dX6_bestInsteadOf_37 (lv_at hl 4 rfl) ?_
      refine lv_aload_n hx hb dX6_bestInsteadOf_39 rfl (lv_at hl 1 rfl) ?_
      refine va_get (D := (dC, dI)) (ci := 2) (v := .int t_core_ranked_items) (C := RX2) (T := TX2) (N := 9) hx hb hts iX6_bestInsteadOf_X2 hown hK hP 2 rfl rfl 4 (Nat.le_of_ble_eq_true rfl) (hts _ kX6_bestInsteadOf_2) (fun _ h9 => h9) rfl dX6_bestInsteadOf_40 ?_
      refine lv_icmp_ge (tgt := 104) hx hb dX6_bestInsteadOf_43 (by decide) (fun c_1 => ?_) (fun c_1 => ?_)
      · replace h := h.1 c_1
        refine lv_iload hx hb dX6_bestInsteadOf_104 (lv_at hl 3 rfl) ?_
        rw [← hQ]
        exact W.iret (v := v5) hx hb hr (fun t ht hW => ⟨⟨v5, (), rfl, h, x_end (w1 := [(a_t, .inr (6, [.ref a_t_now, .ref a_t_images, .ref a_t_past, .int t_acts, .ref a_t_core, .ref a_t_supposed, .ref a_t_trial, .ref a_t_reader, .ref a_t_front, .ref a_t_frontSpare, .int t_frontState])), (a_t_core, .inr (0, [.ref a_t_core_ranked, .ref a_t_core_sets, .ref a_t_core_spare, .int t_core_most, .int t_core_from, .int t_core_to, .int t_core_steps, .int t_core_bestWeight, .int t_core_bestProfit, .long t_core_bestBits])), (a_t_core_ranked, .inr (2, [.ref a_t_core_ranked_itemAt, .ref a_t_core_ranked_placeOf, .ref a_t_core_ranked_weights, .ref a_t_core_ranked_profits, .int t_core_ranked_items, .int t_core_ranked_room, .int t_core_ranked_breakPlace, .int t_core_ranked_breakWeight, .int t_core_ranked_breakProfit])), (a_t_core_ranked_weights, .inl (cy 0, 60, .inl t_core_ranked_weights)), (a_t_core_ranked_profits, .inl (cy 0, 60, .inl t_core_ranked_profits))]) hP hD hK [0, 1, 2, 3, 4] rfl (by decide) rfl ht hW⟩, hS.F ht⟩) hS.2.2 dX6_bestInsteadOf_106
      · replace h := h.2 c_1
        refine lv_aload_n hx hb dX6_bestInsteadOf_46 rfl (lv_at hl 0 rfl) ?_
        refine va_get (D := (dC, dI)) (ci := 6) (v := .ref a_t_core) (C := RX6) (T := TX6) (N := 11) hx hb hts iX6_bestInsteadOf_X6 hown hK hP 0 rfl rfl 4 (Nat.le_of_ble_eq_true rfl) (hts _ kX6_bestInsteadOf_3) (fun _ h9 => h9) rfl dX6_bestInsteadOf_47 ?_
        refine lv_iload hx hb dX6_bestInsteadOf_50 (lv_at hl 4 rfl) ?_
        refine xVi0 (As := [.int v6]) (rest := []) ⟨hx, hb, hml, hown, hts⟩ (mtX0_bestHas l ad dC dI cy a_t_core a_t_core_ranked a_t_core_sets a_t_core_spare a_t_core_ranked_itemAt a_t_core_ranked_placeOf a_t_core_ranked_weights a_t_core_ranked_profits _ t_core_most t_core_from t_core_to t_core_steps t_core_bestWeight t_core_bestProfit t_core_bestBits t_core_ranked_items t_core_ranked_room t_core_ranked_breakPlace t_core_ranked_breakWeight t_core_ranked_breakProfit v6 h) (cwV 1 hts gX6_bestInsteadOf_X0_bestHas rfl rfl rfl qX0_bestHas ⟨Nat.le_of_ble_eq_true rfl, Nat.le_of_ble_eq_true rfl⟩) hE hK hP hD hS hA 0 0 rfl rfl rfl [1, 2] rfl (by decide) rfl hl.1 rfl (Nat.le_of_ble_eq_true rfl) dX6_bestInsteadOf_52 ⟨Nat.le_refl _, Nat.le_refl _⟩ (fun r52 H locs h hP hS => ?_)
        try dsimp only at h
        refine lv_if_ne (tgt := 98) hx hb dX6_bestInsteadOf_55 (by decide) (fun c_2 => ?_) (fun c_2 => ?_)
        · replace h := h.2 c_2
          exact C98 v3 v5 v6 h _ _ _ (x_sub hP [0, 1, 2, 3, 4] rfl) (hD.sub [0, 1, 2, 3, 4] (by decide) rfl) hS (lv_sub hl [0, 1, 2, 3, 4] rfl)
        · replace h := h.1 c_2
          refine lv_aload_n hx hb dX6_bestInsteadOf_58 rfl (lv_at hl 1 rfl) ?_
          refine va_get (D := (dC, dI)) (ci := 2) (v := .ref a_t_core_ranked_weights) (C := RX2) (T := TX2) (N := 9) hx hb hts iX6_bestInsteadOf_X2 hown hK hP 2 rfl rfl 2 (Nat.le_of_ble_eq_true rfl) (hts _ kX6_bestInsteadOf_0) (fun _ h9 => h9) rfl dX6_bestInsteadOf_59 ?_
          refine lv_iload hx hb dX6_bestInsteadOf_62 (lv_at hl 4 rfl) ?_
          refine va_iald (D := (dC, dI)) hx hb hK hP 3 0 rfl rfl h.1 dX6_bestInsteadOf_64 ?_
          replace h := h.2
          refine lv_i2l hx hb dX6_bestInsteadOf_65 rfl ?_
          refine lv_lload_n hx hb dX6_bestInsteadOf_66 rfl (lv_at hl 2 rfl) ?_
          refine W.lcmp hx hb dX6_bestInsteadOf_67 ?_
          refine lv_if_gt (tgt := 98) hx hb dX6_bestInsteadOf_68 (by decide) (fun c_3 => ?_) (fun c_3 => ?_)
          · replace h := h.1 ((lg_cmp_gt _ _).mp c_3)
            exact C98 v3 v5 v6 h _ _ _ (x_sub hP [0, 1, 2, 3, 4] rfl) (hD.sub [0, 1, 2, 3, 4] (by decide) rfl) hS (lv_sub hl [0, 1, 2, 3, 4] rfl)
          · replace h := h.2 (fun z9 => c_3 ((lg_cmp_gt _ _).mpr z9))
            refine lv_iload hx hb dX6_bestInsteadOf_71 (lv_at hl 3 rfl) ?_
            refine lv_iconst (v := -1) hx hb dX6_bestInsteadOf_73 (by decide) ?_
            refine lv_icmp_eq (tgt := 94) hx hb dX6_bestInsteadOf_74 (by decide) (fun c_4 => ?_) (fun c_4 => ?_)
            · replace h := h.1 c_4
              exact C94 v3 v6 h _ _ _ (x_sub hP [0, 1, 2, 3, 4] rfl) (hD.sub [0, 1, 2, 3, 4] (by decide) rfl) hS (lv_sub hl [0, 1, 2, 4] rfl)
            · replace h := h.2 c_4
              refine lv_aload_n hx hb dX6_bestInsteadOf_77 rfl (lv_at hl 1 rfl) ?_
              refine va_get (D := (dC, dI)) (ci := 2) (v := .ref a_t_core_ranked_profits) (C := RX2) (T := TX2) (N := 9) hx hb hts iX6_bestInsteadOf_X2 hown hK hP 2 rfl rfl 3 (Nat.le_of_ble_eq_true rfl) (hts _ kX6_bestInsteadOf_1) (fun _ h9 => h9) rfl dX6_bestInsteadOf_78 ?_
              refine lv_iload hx hb dX6_bestInsteadOf_81 (lv_at hl 4 rfl) ?_
              refine va_iald (D := (dC, dI)) hx hb hK hP 4 0 rfl rfl h.1 dX6_bestInsteadOf_83 ?_
              replace h := h.2
              refine lv_aload_n hx hb dX6_bestInsteadOf_84 rfl (lv_at hl 1 rfl) ?_
              refine va_get (D := (dC, dI)) (ci := 2) (v := .ref a_t_core_ranked_profits) (C := RX2) (T := TX2) (N := 9) hx hb hts iX6_bestInsteadOf_X2 hown hK hP 2 rfl rfl 3 (Nat.le_of_ble_eq_true rfl) (hts _ kX6_bestInsteadOf_1) (fun _ h9 => h9) rfl dX6_bestInsteadOf_85 ?_
              refine lv_iload hx hb dX6_bestInsteadOf_88 (lv_at hl 3 rfl) ?_
              refine va_iald (D := (dC, dI)) hx hb hK hP 4 0 rfl rfl h.1 dX6_bestInsteadOf_90 ?_
              replace h := h.2
              refine lv_icmp_le (tgt := 98) hx hb dX6_bestInsteadOf_91 (by decide) (fun c_5 => ?_) (fun c_5 => ?_)
              · replace h := h.1 c_5
                exact C98 v3 v5 v6 h _ _ _ (x_sub hP [0, 1, 2, 3, 4] rfl) (hD.sub [0, 1, 2, 3, 4] (by decide) rfl) hS (lv_sub hl [0, 1, 2, 3, 4] rfl)
              · replace h := h.2 c_5
                exact C94 v3 v6 h _ _ _ (x_sub hP [0, 1, 2, 3, 4] rfl) (hD.sub [0, 1, 2, 3, 4] (by decide) rfl) hS (lv_sub hl [0, 1, 2, 4] rfl)
  refine lv_aload_n hx hb dX6_bestInsteadOf_0 rfl (lv_at hl 0 rfl) ?_
  refine va_get (D := (dC, dI)) (ci := 6) (v := .ref a_t_core) (C := RX6) (T := TX6) (N := 11) hx hb hts iX6_bestInsteadOf_X6 hown hK hP 0 rfl rfl 4 (Nat.le_of_ble_eq_true rfl) (hts _ kX6_bestInsteadOf_3) (fun _ h9 => h9) rfl dX6_bestInsteadOf_1 ?_
  refine va_get (D := (dC, dI)) (ci := 0) (v := .ref a_t_core_ranked) (C := RX0) (T := TX0) (N := 10) hx hb hts iX6_bestInsteadOf_X0 hown hK hP 1 rfl rfl 0 (Nat.le_of_ble_eq_true rfl) (hts _ kX6_bestInsteadOf_4) (fun _ h9 => h9) rfl dX6_bestInsteadOf_4 ?_
  refine lv_astore_n (lv' := [(2, .ref a_t_core_ranked), (0, .ref a_t), (1, .int v1)]) hx hb dX6_bestInsteadOf_7 rfl hl (by decide) rfl (fun ls hl => ?_)
  refine lv_aload_n hx hb dX6_bestInsteadOf_8 rfl (lv_at hl 0 rfl) ?_
  refine va_get (D := (dC, dI)) (ci := 2) (v := .int t_core_ranked_room) (C := RX2) (T := TX2) (N := 9) hx hb hts iX6_bestInsteadOf_X2 hown hK hP 2 rfl rfl 5 (Nat.le_of_ble_eq_true rfl) (hts _ kX6_bestInsteadOf_5) (fun _ h9 => h9) rfl dX6_bestInsteadOf_9 ?_
  refine lv_i2l hx hb dX6_bestInsteadOf_12 rfl ?_
  refine lv_aload_n hx hb dX6_bestInsteadOf_13 rfl (lv_at hl 1 rfl) ?_
  refine va_get (D := (dC, dI)) (ci := 6) (v := .ref a_t_core) (C := RX6) (T := TX6) (N := 11) hx hb hts iX6_bestInsteadOf_X6 hown hK hP 0 rfl rfl 4 (Nat.le_of_ble_eq_true rfl) (hts _ kX6_bestInsteadOf_3) (fun _ h9 => h9) rfl dX6_bestInsteadOf_14 ?_
  refine va_get (D := (dC, dI)) (ci := 0) (v := .int t_core_bestWeight) (C := RX0) (T := TX0) (N := 10) hx hb hts iX6_bestInsteadOf_X0 hown hK hP 1 rfl rfl 7 (Nat.le_of_ble_eq_true rfl) (hts _ kX6_bestInsteadOf_6) (fun _ h9 => h9) rfl dX6_bestInsteadOf_17 ?_
  refine lv_i2l hx hb dX6_bestInsteadOf_20 rfl ?_
  refine lv_lsub hx hb dX6_bestInsteadOf_21 ?_
  refine lv_aload_n hx hb dX6_bestInsteadOf_22 rfl (lv_at hl 0 rfl) ?_
  refine va_get (D := (dC, dI)) (ci := 2) (v := .ref a_t_core_ranked_weights) (C := RX2) (T := TX2) (N := 9) hx hb hts iX6_bestInsteadOf_X2 hown hK hP 2 rfl rfl 2 (Nat.le_of_ble_eq_true rfl) (hts _ kX6_bestInsteadOf_0) (fun _ h9 => h9) rfl dX6_bestInsteadOf_23 ?_
  refine lv_iload_n hx hb dX6_bestInsteadOf_26 rfl (lv_at hl 2 rfl) ?_
  refine va_iald (D := (dC, dI)) hx hb hK hP 3 0 rfl rfl h.1 dX6_bestInsteadOf_27 ?_
  replace h := h.2
  refine lv_i2l hx hb dX6_bestInsteadOf_28 rfl ?_
  refine lv_ladd hx hb dX6_bestInsteadOf_29 ?_
  refine lv_lstore_n (lv' := [(3, .long (((t_core_ranked_room).toInt64 - (t_core_bestWeight).toInt64) + ((t_core_ranked_weights (v1).toNatClampNeg)).toInt64)), (2, .ref a_t_core_ranked), (0, .ref a_t), (1, .int v1)]) hx hb dX6_bestInsteadOf_30 rfl hl (by decide) rfl (fun ls hl => ?_)
  refine lv_iconst (v := -1) hx hb dX6_bestInsteadOf_31 (by decide) ?_
  refine lv_istore (lv' := [(5, .int (-1 : Int32)), (3, .long (((t_core_ranked_room).toInt64 - (t_core_bestWeight).toInt64) + ((t_core_ranked_weights (v1).toNatClampNeg)).toInt64)), (2, .ref a_t_core_ranked), (0, .ref a_t), (1, .int v1)]) hx hb dX6_bestInsteadOf_32 hl (by decide) rfl (fun ls hl => ?_)
  refine lv_iconst (v := 0) hx hb dX6_bestInsteadOf_34 (by decide) ?_
  refine lv_istore (lv' := [(6, .int (0 : Int32)), (5, .int (-1 : Int32)), (3, .long (((t_core_ranked_room).toInt64 - (t_core_bestWeight).toInt64) + ((t_core_ranked_weights (v1).toNatClampNeg)).toInt64)), (2, .ref a_t_core_ranked), (0, .ref a_t), (1, .int v1)]) hx hb dX6_bestInsteadOf_35 hl (by decide) rfl (fun ls hl => ?_)
  obtain ⟨n9, h⟩ := h
  exact L37 n9 (((t_core_ranked_room).toInt64 - (t_core_bestWeight).toInt64) + ((t_core_ranked_weights (v1).toNatClampNeg)).toInt64) (-1 : Int32) (0 : Int32) h _ _ _ (x_sub hP [0, 1, 2, 3, 4] rfl) (hD.sub [0, 1, 2, 3, 4] (by decide) rfl) hS (lv_sub hl [4, 3, 2, 1, 0] rfl)

def wX6_bitsOfDouble_87 (post : Int64 → Prop) (v2 : UInt64) (v4 : Int64) : Prop :=
  vf_n64 (FP.dsub v2 FP.dconst1) ∧ vf_n64 (FP.dmul (FP.dsub v2 FP.dconst1) (4841369599423283200 : UInt64)) ∧ post ((v4 <<< (((52 : Int32)).toInt64 &&& 63)) ||| (FP.d2l (FP.dmul (FP.dsub v2 FP.dconst1) (4841369599423283200 : UInt64))))
def wX6_bitsOfDouble_55_b (post : Int64 → Prop) (K55 : UInt64 → Int64 → Int32 → Prop) (v2 : UInt64) (v4 : Int64) (v6 : Int32) : Prop :=
  ((1022 : Int32) ≤ v6 → wX6_bitsOfDouble_87 post v2 v4) ∧ (¬ (1022 : Int32) ≤ v6 → ((0 : Int32) ≤ (Op.cmpValue (FP.dcmp v2 FP.dconst1) .g) → wX6_bitsOfDouble_87 post v2 v4) ∧ (¬ (0 : Int32) ≤ (Op.cmpValue (FP.dcmp v2 FP.dconst1) .g) → vf_n64 (FP.dmul v2 (4611686018427387904 : UInt64)) ∧ K55 (FP.dmul v2 (4611686018427387904 : UInt64)) (v4 - (1 : Int64)) (v6 + (1 : Int32))))
def wX6_bitsOfDouble_55 (post : Int64 → Prop) : Nat → UInt64 → Int64 → Int32 → Prop
  | 0 => fun _ _ _ => False
  | n + 1 => wX6_bitsOfDouble_55_b post (wX6_bitsOfDouble_55 post n)
def wX6_bitsOfDouble_52 (post : Int64 → Prop) (v2 : UInt64) (v4 : Int64) : Prop :=
  ∃ n : Nat, wX6_bitsOfDouble_55 post n v2 v4 (0 : Int32)
def wX6_bitsOfDouble_18_b (post : Int64 → Prop) (K18 : UInt64 → Int64 → Int32 → Prop) (v2 : UInt64) (v4 : Int64) (v6 : Int32) : Prop :=
  ((1022 : Int32) ≤ v6 → wX6_bitsOfDouble_52 post v2 v4) ∧ (¬ (1022 : Int32) ≤ v6 → ((Op.cmpValue (FP.dcmp v2 (4611686018427387904 : UInt64)) .l) < (0 : Int32) → wX6_bitsOfDouble_52 post v2 v4) ∧ (¬ (Op.cmpValue (FP.dcmp v2 (4611686018427387904 : UInt64)) .l) < (0 : Int32) → vf_n64 (FP.ddiv v2 (4611686018427387904 : UInt64)) ∧ K18 (FP.ddiv v2 (4611686018427387904 : UInt64)) (v4 + (1 : Int64)) (v6 + (1 : Int32))))
def wX6_bitsOfDouble_18 (post : Int64 → Prop) : Nat → UInt64 → Int64 → Int32 → Prop
  | 0 => fun _ _ _ => False
  | n + 1 => wX6_bitsOfDouble_18_b post (wX6_bitsOfDouble_18 post n)
/-- KnapsackCore.bitsOfDouble(D)J -/
def wX6_bitsOfDouble (post : Int64 → Prop) (v0 : UInt64) : Prop :=
  ((0 : Int32) < (Op.cmpValue (FP.dcmp v0 FP.dconst0) .l) → ∃ n : Nat, wX6_bitsOfDouble_18 post n v0 (1023 : Int64) (0 : Int32)) ∧ (¬ (0 : Int32) < (Op.cmpValue (FP.dcmp v0 FP.dconst0) .l) → post (0 : Int64))
theorem kX6_bitsOfDouble_0 : Cond.constantDouble RX6 346 (4841369599423283200) ∈ wsX6_bitsOfDouble := (List.mem_cons_of_mem _ (List.mem_of_getElem? (i := 2) rfl))
theorem kX6_bitsOfDouble_1 : Cond.constantDouble RX6 344 (4611686018427387904) ∈ wsX6_bitsOfDouble := (List.mem_cons_of_mem _ (List.mem_of_getElem? (i := 1) rfl))
theorem kX6_bitsOfDouble_2 : Cond.constantLong RX6 342 (1023) ∈ wsX6_bitsOfDouble := (List.mem_cons_of_mem _ (List.mem_of_getElem? (i := 0) rfl))
set_option maxHeartbeats 4000000 in
set_option maxRecDepth 100000 in
theorem mtX6_bitsOfDouble (l : Launch) (ad : (Nat → Nat) × (Nat → Nat)) (dC : Nat → ClassId) (dI : Nat → Nat → Nat) (cy : Nat → ClassId) (sz : Nat) (v0 : UInt64) {post : Int64 → Prop} (h : wX6_bitsOfDouble post v0) : xMl l yX6_bitsOfDouble wsX6_bitsOfDouble ({ frames := 0, cells := 0, slots := 0, locals := 0 } : Room) ad (dC, dI) vwCl (xT cy) [.double v0] [] sz (fun (r : Int64) (_ : Unit) => post r) (fun (_ : Unit) w => w = []) 0 0 := by
  unfold xMl
  refine Met.ofW (cc := cX6_bitsOfDouble) (maxL := 7) (ret := (some .long)) (by decide +kernel) rfl ?_
  intro p e s m args below meth c s₁ B hml hv
  obtain ⟨rfl, hsz, hP, hK, hD0, hE⟩ := hv
  have hx := B.exec
  have hb := B.bytes
  have hr := B.returns
  have hts := atoms_spec (ws := wsX6_bitsOfDouble) B.pre
  have hown : s.vm.findClass RX6 = some m.cls := findClass_of_methodNamed B.named
  have hlocks := B.notSynchronized
  subst hsz
  have hD := hD0.self (sz := s.heap.size)
  generalize hAe : va_A [] s.heap.size = A at hD hE ⊢
  have hA : ∀ q : Nat, s.heap.size ≤ q → A q := fun q h => by rw [← hAe]; exact Or.inr h
  have hS : va_S A s.heap s.heap [] := va_S.rf
  have hl := lv_entry ([.double v0]) (n := 7) (Nat.le_of_ble_eq_true rfl)
  rw [lg_entry_eq]
  generalize (lg_sl ([.double v0]) ++ List.replicate (7 - (lg_sl ([.double v0])).length) Slot.unset).toArray = ls at hl ⊢
  have hl : lv_has ls 7 [(0, .double v0)] := hl
  generalize hQ : MQ below _ _ s _ _ _ = Q
  generalize ([.double v0] : List Value).toArray = args at hts hQ ⊢
  clear B hD0 hAe
  have C87 : ∀ (v2 : UInt64) (v4 : Int64), wX6_bitsOfDouble_87 post v2 v4 → ∀ (H : Heap) (locs : List Loc) (ls : Array Slot), va_P (dC, dI) vwCl [] H → va_D A [] → va_S A s.heap H locs → lv_has ls 7 [(2, .double v2), (4, .long v4)] → W p l e (headSpec wsX6_bitsOfDouble ({ frames := 0, cells := 0, slots := 0, locals := 0 } : Room)).room s m args below meth c H locs 0 0 Q (F0 m 87 ls []) := by
    intro v2 v4 h H locs ls hP hD hS hl
    refine lv_lload hx hb dX6_bitsOfDouble_87 (lv_at hl 1 rfl) ?_
    refine lv_bipush (v := 52) hx hb dX6_bitsOfDouble_89 (by decide) ?_
    refine lv_lshl hx hb dX6_bitsOfDouble_91 rfl ?_
    refine lv_dload_n hx hb dX6_bitsOfDouble_92 rfl (lv_at hl 0 rfl) ?_
    refine lv_dconst1 hx hb dX6_bitsOfDouble_93 ?_
    refine lv_dsub hx hb dX6_bitsOfDouble_94 h.1 ?_
    replace h := h.2
    refine lv_ldc2d hx hb hown (hts _ kX6_bitsOfDouble_0) dX6_bitsOfDouble_95 ?_
    refine lv_dmul hx hb dX6_bitsOfDouble_98 h.1 ?_
    replace h := h.2
    refine lv_d2l hx hb dX6_bitsOfDouble_99 ?_
    refine lv_lor hx hb dX6_bitsOfDouble_100 ?_
    rw [← hQ]
    exact W.lret (v := ((v4 <<< (((52 : Int32)).toInt64 &&& 63)) ||| (FP.d2l (FP.dmul (FP.dsub v2 FP.dconst1) (4841369599423283200 : UInt64))))) hx hb hr (fun t ht hW => ⟨⟨((v4 <<< (((52 : Int32)).toInt64 &&& 63)) ||| (FP.d2l (FP.dmul (FP.dsub v2 FP.dconst1) (4841369599423283200 : UInt64)))), (), rfl, h, x_end (w1 := []) hP hD hK [] rfl (by decide) rfl ht hW⟩, hS.F ht⟩) hS.2.2 dX6_bitsOfDouble_101
  have L55 : ∀ n : Nat, ∀ (v2 : UInt64) (v4 : Int64) (v6 : Int32), wX6_bitsOfDouble_55 post n v2 v4 v6 → ∀ (H : Heap) (locs : List Loc) (ls : Array Slot), va_P (dC, dI) vwCl [] H → va_D A [] → va_S A s.heap H locs → lv_has ls 7 [(2, .double v2), (4, .long v4), (6, .int v6)] → W p l e (headSpec wsX6_bitsOfDouble ({ frames := 0, cells := 0, slots := 0, locals := 0 } : Room)).room s m args below meth c H locs 0 0 Q (F0 m 55 ls []) := by
    intro n
    induction n with
    | zero => intro v2 v4 v6 h; exact False.elim h
    | succ n55 ih55 =>
      intro v2 v4 v6 h H locs ls hP hD hS hl
      replace h : wX6_bitsOfDouble_55_b post (wX6_bitsOfDouble_55 post n55) v2 v4 v6 := h
      refine lv_iload hx hb dX6_bitsOfDouble_55 (lv_at hl 2 rfl) ?_
      refine lv_sipush (v := 1022) hx hb dX6_bitsOfDouble_57 (by decide) ?_
      refine lv_icmp_ge (tgt := 87) hx hb dX6_bitsOfDouble_60 (by decide) (fun c_1 => ?_) (fun c_1 => ?_)
      · replace h := h.1 c_1
        exact C87 v2 v4 h _ _ _ (x_sub hP [] rfl) (hD.sub [] (by decide) rfl) hS (lv_sub hl [0, 1] rfl)
      · replace h := h.2 c_1
        refine lv_dload_n hx hb dX6_bitsOfDouble_63 rfl (lv_at hl 0 rfl) ?_
        refine lv_dconst1 hx hb dX6_bitsOfDouble_64 ?_
        refine lv_dcmp hx hb dX6_bitsOfDouble_65 ?_
        refine lv_if_ge (tgt := 87) hx hb dX6_bitsOfDouble_66 (by decide) (fun c_2 => ?_) (fun c_2 => ?_)
        · replace h := h.1 c_2
          exact C87 v2 v4 h _ _ _ (x_sub hP [] rfl) (hD.sub [] (by decide) rfl) hS (lv_sub hl [0, 1] rfl)
        · replace h := h.2 c_2
          refine lv_dload_n hx hb dX6_bitsOfDouble_69 rfl (lv_at hl 0 rfl) ?_
          refine lv_ldc2d hx hb hown (hts _ kX6_bitsOfDouble_1) dX6_bitsOfDouble_70 ?_
          refine lv_dmul hx hb dX6_bitsOfDouble_73 h.1 ?_
          replace h := h.2
          refine lv_dstore_n (lv' := [(2, .double (FP.dmul v2 (4611686018427387904 : UInt64))), (4, .long v4), (6, .int v6)]) hx hb dX6_bitsOfDouble_74 rfl hl (by decide) rfl (fun ls hl => ?_)
          refine lv_lload hx hb dX6_bitsOfDouble_75 (lv_at hl 1 rfl) ?_
          refine lv_lconst (v := 1) hx hb dX6_bitsOfDouble_77 (by decide) ?_
          refine lv_lsub hx hb dX6_bitsOfDouble_78 ?_
          refine lv_lstore (lv' := [(4, .long (v4 - (1 : Int64))), (2, .double (FP.dmul v2 (4611686018427387904 : UInt64))), (6, .int v6)]) hx hb dX6_bitsOfDouble_79 hl (by decide) rfl (fun ls hl => ?_)
          refine lv_iinc (v := (v6 + (1 : Int32))) (lv' := [(6, .int (v6 + (1 : Int32))), (4, .long (v4 - (1 : Int64))), (2, .double (FP.dmul v2 (4611686018427387904 : UInt64)))]) hx hb dX6_bitsOfDouble_81 hl (k := 2) rfl rfl (by decide) rfl (fun ls hl => ?_)
          refine lv_goto (tgt := 55) hx hb dX6_bitsOfDouble_84 (by decide) ?_
          exact ih55 (FP.dmul v2 (4611686018427387904 : UInt64)) (v4 - (1 : Int64)) (v6 + (1 : Int32)) h _ _ _ (x_sub hP [] rfl) (hD.sub [] (by decide) rfl) hS (lv_sub hl [2, 1, 0] rfl)
  have C52 : ∀ (v2 : UInt64) (v4 : Int64), wX6_bitsOfDouble_52 post v2 v4 → ∀ (H : Heap) (locs : List Loc) (ls : Array Slot), va_P (dC, dI) vwCl [] H → va_D A [] → va_S A s.heap H locs → lv_has ls 7 [(2, .double v2), (4, .long v4)] → W p l e (headSpec wsX6_bitsOfDouble ({ frames := 0, cells := 0, slots := 0, locals := 0 } : Room)).room s m args below meth c H locs 0 0 Q (F0 m 52 ls []) := by
    intro v2 v4 h H locs ls hP hD hS hl
    refine lv_iconst (v := 0) hx hb dX6_bitsOfDouble_52 (by decide) ?_
    refine lv_istore (lv' := [(6, .int (0 : Int32)), (2, .double v2), (4, .long v4)]) hx hb dX6_bitsOfDouble_53 hl (by decide) rfl (fun ls hl => ?_)
    obtain ⟨n9, h⟩ := h
    exact L55 n9 v2 v4 (0 : Int32) h _ _ _ (x_sub hP [] rfl) (hD.sub [] (by decide) rfl) hS (lv_sub hl [1, 2, 0] rfl)
  have L18 : ∀ n : Nat, ∀ (v2 : UInt64) (v4 : Int64) (v6 : Int32), wX6_bitsOfDouble_18 post n v2 v4 v6 → ∀ (H : Heap) (locs : List Loc) (ls : Array Slot), va_P (dC, dI) vwCl [] H → va_D A [] → va_S A s.heap H locs → lv_has ls 7 [(2, .double v2), (4, .long v4), (6, .int v6)] → W p l e (headSpec wsX6_bitsOfDouble ({ frames := 0, cells := 0, slots := 0, locals := 0 } : Room)).room s m args below meth c H locs 0 0 Q (F0 m 18 ls []) := by
    intro n
    induction n with
    | zero => intro v2 v4 v6 h; exact False.elim h
    | succ n18 ih18 =>
      intro v2 v4 v6 h H locs ls hP hD hS hl
      replace h : wX6_bitsOfDouble_18_b post (wX6_bitsOfDouble_18 post n18) v2 v4 v6 := h
      refine lv_iload hx hb dX6_bitsOfDouble_18 (lv_at hl 2 rfl) ?_
      refine lv_sipush (v := 1022) hx hb dX6_bitsOfDouble_20 (by decide) ?_
      refine lv_icmp_ge (tgt := 52) hx hb dX6_bitsOfDouble_23 (by decide) (fun c_3 => ?_) (fun c_3 => ?_)
      · replace h := h.1 c_3
        exact C52 v2 v4 h _ _ _ (x_sub hP [] rfl) (hD.sub [] (by decide) rfl) hS (lv_sub hl [0, 1] rfl)
      · replace h := h.2 c_3
        refine lv_dload_n hx hb dX6_bitsOfDouble_26 rfl (lv_at hl 0 rfl) ?_
        refine lv_ldc2d hx hb hown (hts _ kX6_bitsOfDouble_1) dX6_bitsOfDouble_27 ?_
        refine lv_dcmp hx hb dX6_bitsOfDouble_30 ?_
        refine lv_if_lt (tgt := 52) hx hb dX6_bitsOfDouble_31 (by decide) (fun c_4 => ?_) (fun c_4 => ?_)
        · replace h := h.1 c_4
          exact C52 v2 v4 h _ _ _ (x_sub hP [] rfl) (hD.sub [] (by decide) rfl) hS (lv_sub hl [0, 1] rfl)
        · replace h := h.2 c_4
          refine lv_dload_n hx hb dX6_bitsOfDouble_34 rfl (lv_at hl 0 rfl) ?_
          refine lv_ldc2d hx hb hown (hts _ kX6_bitsOfDouble_1) dX6_bitsOfDouble_35 ?_
          refine lv_ddiv hx hb dX6_bitsOfDouble_38 h.1 ?_
          replace h := h.2
          refine lv_dstore_n (lv' := [(2, .double (FP.ddiv v2 (4611686018427387904 : UInt64))), (4, .long v4), (6, .int v6)]) hx hb dX6_bitsOfDouble_39 rfl hl (by decide) rfl (fun ls hl => ?_)
          refine lv_lload hx hb dX6_bitsOfDouble_40 (lv_at hl 1 rfl) ?_
          refine lv_lconst (v := 1) hx hb dX6_bitsOfDouble_42 (by decide) ?_
          refine lv_ladd hx hb dX6_bitsOfDouble_43 ?_
          refine lv_lstore (lv' := [(4, .long (v4 + (1 : Int64))), (2, .double (FP.ddiv v2 (4611686018427387904 : UInt64))), (6, .int v6)]) hx hb dX6_bitsOfDouble_44 hl (by decide) rfl (fun ls hl => ?_)
          refine lv_iinc (v := (v6 + (1 : Int32))) (lv' := [(6, .int (v6 + (1 : Int32))), (4, .long (v4 + (1 : Int64))), (2, .double (FP.ddiv v2 (4611686018427387904 : UInt64)))]) hx hb dX6_bitsOfDouble_46 hl (k := 2) rfl rfl (by decide) rfl (fun ls hl => ?_)
          refine lv_goto (tgt := 18) hx hb dX6_bitsOfDouble_49 (by decide) ?_
          exact ih18 (FP.ddiv v2 (4611686018427387904 : UInt64)) (v4 + (1 : Int64)) (v6 + (1 : Int32)) h _ _ _ (x_sub hP [] rfl) (hD.sub [] (by decide) rfl) hS (lv_sub hl [2, 1, 0] rfl)
  refine lv_dload_n hx hb dX6_bitsOfDouble_0 rfl (lv_at hl 0 rfl) ?_
  refine lv_dconst0 hx hb dX6_bitsOfDouble_1 ?_
  refine lv_dcmp hx hb dX6_bitsOfDouble_2 ?_
  refine lv_if_gt (tgt := 8) hx hb dX6_bitsOfDouble_3 (by decide) (fun c_5 => ?_) (fun c_5 => ?_)
  · replace h := h.1 c_5
    refine lv_dload_n hx hb dX6_bitsOfDouble_8 rfl (lv_at hl 0 rfl) ?_
    refine lv_dstore_n (lv' := [(2, .double v0), (0, .double v0)]) hx hb dX6_bitsOfDouble_9 rfl hl (by decide) rfl (fun ls hl => ?_)
    refine lv_ldc2 hx hb hown (hts _ kX6_bitsOfDouble_2) dX6_bitsOfDouble_10 ?_
    refine lv_lstore (lv' := [(4, .long (1023 : Int64)), (2, .double v0), (0, .double v0)]) hx hb dX6_bitsOfDouble_13 hl (by decide) rfl (fun ls hl => ?_)
    refine lv_iconst (v := 0) hx hb dX6_bitsOfDouble_15 (by decide) ?_
    refine lv_istore (lv' := [(6, .int (0 : Int32)), (4, .long (1023 : Int64)), (2, .double v0), (0, .double v0)]) hx hb dX6_bitsOfDouble_16 hl (by decide) rfl (fun ls hl => ?_)
    obtain ⟨n9, h⟩ := h
    exact L18 n9 v0 (1023 : Int64) (0 : Int32) h _ _ _ (x_sub hP [] rfl) (hD.sub [] (by decide) rfl) hS (lv_sub hl [2, 1, 0] rfl)
  · replace h := h.2 c_5
    refine lv_lconst (v := 0) hx hb dX6_bitsOfDouble_6 (by decide) ?_
    rw [← hQ]
    exact W.lret (v := (0 : Int64)) hx hb hr (fun t ht hW => ⟨⟨(0 : Int64), (), rfl, h, x_end (w1 := []) hP hD hK [] rfl (by decide) rfl ht hW⟩, hS.F ht⟩) hS.2.2 dX6_bitsOfDouble_7

def wX6_bitsOfFloat_67 (post : Int32 → Prop) (v1 : UInt32) (v2 : Int32) : Prop :=
  vf_n32 (FP.fsub v1 FP.fconst1) ∧ vf_n32 (FP.fmul (FP.fsub v1 FP.fconst1) (1258291200 : UInt32)) ∧ post ((v2 <<< ((23 : Int32) &&& 31)) ||| (FP.f2i (FP.fmul (FP.fsub v1 FP.fconst1) (1258291200 : UInt32))))
def wX6_bitsOfFloat_42_b (post : Int32 → Prop) (K42 : UInt32 → Int32 → Int32 → Prop) (v1 : UInt32) (v2 v3 : Int32) : Prop :=
  ((126 : Int32) ≤ v3 → wX6_bitsOfFloat_67 post v1 v2) ∧ (¬ (126 : Int32) ≤ v3 → ((0 : Int32) ≤ (Op.cmpValue (FP.fcmp v1 FP.fconst1) .g) → wX6_bitsOfFloat_67 post v1 v2) ∧ (¬ (0 : Int32) ≤ (Op.cmpValue (FP.fcmp v1 FP.fconst1) .g) → vf_n32 (FP.fmul v1 FP.fconst2) ∧ K42 (FP.fmul v1 FP.fconst2) (v2 + (-1 : Int32)) (v3 + (1 : Int32))))
def wX6_bitsOfFloat_42 (post : Int32 → Prop) : Nat → UInt32 → Int32 → Int32 → Prop
  | 0 => fun _ _ _ => False
  | n + 1 => wX6_bitsOfFloat_42_b post (wX6_bitsOfFloat_42 post n)
def wX6_bitsOfFloat_40 (post : Int32 → Prop) (v1 : UInt32) (v2 : Int32) : Prop :=
  ∃ n : Nat, wX6_bitsOfFloat_42 post n v1 v2 (0 : Int32)
def wX6_bitsOfFloat_15_b (post : Int32 → Prop) (K15 : UInt32 → Int32 → Int32 → Prop) (v1 : UInt32) (v2 v3 : Int32) : Prop :=
  ((126 : Int32) ≤ v3 → wX6_bitsOfFloat_40 post v1 v2) ∧ (¬ (126 : Int32) ≤ v3 → ((Op.cmpValue (FP.fcmp v1 FP.fconst2) .l) < (0 : Int32) → wX6_bitsOfFloat_40 post v1 v2) ∧ (¬ (Op.cmpValue (FP.fcmp v1 FP.fconst2) .l) < (0 : Int32) → vf_n32 (FP.fdiv v1 FP.fconst2) ∧ K15 (FP.fdiv v1 FP.fconst2) (v2 + (1 : Int32)) (v3 + (1 : Int32))))
def wX6_bitsOfFloat_15 (post : Int32 → Prop) : Nat → UInt32 → Int32 → Int32 → Prop
  | 0 => fun _ _ _ => False
  | n + 1 => wX6_bitsOfFloat_15_b post (wX6_bitsOfFloat_15 post n)
/-- KnapsackCore.bitsOfFloat(F)I -/
def wX6_bitsOfFloat (post : Int32 → Prop) (v0 : UInt32) : Prop :=
  ((0 : Int32) < (Op.cmpValue (FP.fcmp v0 FP.fconst0) .l) → ∃ n : Nat, wX6_bitsOfFloat_15 post n v0 (127 : Int32) (0 : Int32)) ∧ (¬ (0 : Int32) < (Op.cmpValue (FP.fcmp v0 FP.fconst0) .l) → post (0 : Int32))
theorem kX6_bitsOfFloat_0 : Cond.constantFloat RX6 341 (1258291200) ∈ wsX6_bitsOfFloat := (List.mem_cons_of_mem _ (List.mem_of_getElem? (i := 0) rfl))
set_option maxHeartbeats 4000000 in
set_option maxRecDepth 100000 in
theorem mtX6_bitsOfFloat (l : Launch) (ad : (Nat → Nat) × (Nat → Nat)) (dC : Nat → ClassId) (dI : Nat → Nat → Nat) (cy : Nat → ClassId) (sz : Nat) (v0 : UInt32) {post : Int32 → Prop} (h : wX6_bitsOfFloat post v0) : xMi l yX6_bitsOfFloat wsX6_bitsOfFloat ({ frames := 0, cells := 0, slots := 0, locals := 0 } : Room) ad (dC, dI) vwCl (xT cy) [.float v0] [] sz (fun (r : Int32) (_ : Unit) => post r) (fun (_ : Unit) w => w = []) 0 0 := by
  unfold xMi
  refine Met.ofW (cc := cX6_bitsOfFloat) (maxL := 4) (ret := (some .int)) (by decide +kernel) rfl ?_
  intro p e s m args below meth c s₁ B hml hv
  obtain ⟨rfl, hsz, hP, hK, hD0, hE⟩ := hv
  have hx := B.exec
  have hb := B.bytes
  have hr := B.returns
  have hts := atoms_spec (ws := wsX6_bitsOfFloat) B.pre
  have hown : s.vm.findClass RX6 = some m.cls := findClass_of_methodNamed B.named
  have hlocks := B.notSynchronized
  subst hsz
  have hD := hD0.self (sz := s.heap.size)
  generalize hAe : va_A [] s.heap.size = A at hD hE ⊢
  have hA : ∀ q : Nat, s.heap.size ≤ q → A q := fun q h => by rw [← hAe]; exact Or.inr h
  have hS : va_S A s.heap s.heap [] := va_S.rf
  have hl := lv_entry ([.float v0]) (n := 4) (Nat.le_of_ble_eq_true rfl)
  rw [lg_entry_eq]
  generalize (lg_sl ([.float v0]) ++ List.replicate (4 - (lg_sl ([.float v0])).length) Slot.unset).toArray = ls at hl ⊢
  have hl : lv_has ls 4 [(0, .float v0)] := hl
  generalize hQ : MQ below _ _ s _ _ _ = Q
  generalize ([.float v0] : List Value).toArray = args at hts hQ ⊢
  clear B hD0 hAe
  have C67 : ∀ (v1 : UInt32) (v2 : Int32), wX6_bitsOfFloat_67 post v1 v2 → ∀ (H : Heap) (locs : List Loc) (ls : Array Slot), va_P (dC, dI) vwCl [] H → va_D A [] → va_S A s.heap H locs → lv_has ls 4 [(1, .float v1), (2, .int v2)] → W p l e (headSpec wsX6_bitsOfFloat ({ frames := 0, cells := 0, slots := 0, locals := 0 } : Room)).room s m args below meth c H locs 0 0 Q (F0 m 67 ls []) := by
    intro v1 v2 h H locs ls hP hD hS hl
    refine lv_iload_n hx hb dX6_bitsOfFloat_67 rfl (lv_at hl 1 rfl) ?_
    refine lv_bipush (v := 23) hx hb dX6_bitsOfFloat_68 (by decide) ?_
    refine lv_ishl hx hb dX6_bitsOfFloat_70 ?_
    refine lv_fload_n hx hb dX6_bitsOfFloat_71 rfl (lv_at hl 0 rfl) ?_
    refine lv_fconst1 hx hb dX6_bitsOfFloat_72 ?_
    refine lv_fsub hx hb dX6_bitsOfFloat_73 h.1 ?_
    replace h := h.2
    refine x_ldcfw hx hb hown (hts _ kX6_bitsOfFloat_0) dX6_bitsOfFloat_74 ?_
    refine lv_fmul hx hb dX6_bitsOfFloat_77 h.1 ?_
    replace h := h.2
    refine lv_f2i hx hb dX6_bitsOfFloat_78 ?_
    refine lv_ior hx hb dX6_bitsOfFloat_79 ?_
    rw [← hQ]
    exact W.iret (v := ((v2 <<< ((23 : Int32) &&& 31)) ||| (FP.f2i (FP.fmul (FP.fsub v1 FP.fconst1) (1258291200 : UInt32))))) hx hb hr (fun t ht hW => ⟨⟨((v2 <<< ((23 : Int32) &&& 31)) ||| (FP.f2i (FP.fmul (FP.fsub v1 FP.fconst1) (1258291200 : UInt32)))), (), rfl, h, x_end (w1 := []) hP hD hK [] rfl (by decide) rfl ht hW⟩, hS.F ht⟩) hS.2.2 dX6_bitsOfFloat_80
  have L42 : ∀ n : Nat, ∀ (v1 : UInt32) (v2 v3 : Int32), wX6_bitsOfFloat_42 post n v1 v2 v3 → ∀ (H : Heap) (locs : List Loc) (ls : Array Slot), va_P (dC, dI) vwCl [] H → va_D A [] → va_S A s.heap H locs → lv_has ls 4 [(1, .float v1), (2, .int v2), (3, .int v3)] → W p l e (headSpec wsX6_bitsOfFloat ({ frames := 0, cells := 0, slots := 0, locals := 0 } : Room)).room s m args below meth c H locs 0 0 Q (F0 m 42 ls []) := by
    intro n
    induction n with
    | zero => intro v1 v2 v3 h; exact False.elim h
    | succ n42 ih42 =>
      intro v1 v2 v3 h H locs ls hP hD hS hl
      replace h : wX6_bitsOfFloat_42_b post (wX6_bitsOfFloat_42 post n42) v1 v2 v3 := h
      refine lv_iload_n hx hb dX6_bitsOfFloat_42 rfl (lv_at hl 2 rfl) ?_
      refine lv_bipush (v := 126) hx hb dX6_bitsOfFloat_43 (by decide) ?_
      refine lv_icmp_ge (tgt := 67) hx hb dX6_bitsOfFloat_45 (by decide) (fun c_1 => ?_) (fun c_1 => ?_)
      · replace h := h.1 c_1
        exact C67 v1 v2 h _ _ _ (x_sub hP [] rfl) (hD.sub [] (by decide) rfl) hS (lv_sub hl [0, 1] rfl)
      · replace h := h.2 c_1
        refine lv_fload_n hx hb dX6_bitsOfFloat_48 rfl (lv_at hl 0 rfl) ?_
        refine lv_fconst1 hx hb dX6_bitsOfFloat_49 ?_
        refine lv_fcmp hx hb dX6_bitsOfFloat_50 ?_
        refine lv_if_ge (tgt := 67) hx hb dX6_bitsOfFloat_51 (by decide) (fun c_2 => ?_) (fun c_2 => ?_)
        · replace h := h.1 c_2
          exact C67 v1 v2 h _ _ _ (x_sub hP [] rfl) (hD.sub [] (by decide) rfl) hS (lv_sub hl [0, 1] rfl)
        · replace h := h.2 c_2
          refine lv_fload_n hx hb dX6_bitsOfFloat_54 rfl (lv_at hl 0 rfl) ?_
          refine lv_fconst2 hx hb dX6_bitsOfFloat_55 ?_
          refine lv_fmul hx hb dX6_bitsOfFloat_56 h.1 ?_
          replace h := h.2
          refine lv_fstore_n (lv' := [(1, .float (FP.fmul v1 FP.fconst2)), (2, .int v2), (3, .int v3)]) hx hb dX6_bitsOfFloat_57 rfl hl (by decide) rfl (fun ls hl => ?_)
          refine lv_iinc (v := (v2 + (-1 : Int32))) (lv' := [(2, .int (v2 + (-1 : Int32))), (1, .float (FP.fmul v1 FP.fconst2)), (3, .int v3)]) hx hb dX6_bitsOfFloat_58 hl (k := 1) rfl rfl (by decide) rfl (fun ls hl => ?_)
          refine lv_iinc (v := (v3 + (1 : Int32))) (lv' := [(3, .int (v3 + (1 : Int32))), (2, .int (v2 + (-1 : Int32))), (1, .float (FP.fmul v1 FP.fconst2))]) hx hb dX6_bitsOfFloat_61 hl (k := 2) rfl rfl (by decide) rfl (fun ls hl => ?_)
          refine lv_goto (tgt := 42) hx hb dX6_bitsOfFloat_64 (by decide) ?_
          exact ih42 (FP.fmul v1 FP.fconst2) (v2 + (-1 : Int32)) (v3 + (1 : Int32)) h _ _ _ (x_sub hP [] rfl) (hD.sub [] (by decide) rfl) hS (lv_sub hl [2, 1, 0] rfl)
  have C40 : ∀ (v1 : UInt32) (v2 : Int32), wX6_bitsOfFloat_40 post v1 v2 → ∀ (H : Heap) (locs : List Loc) (ls : Array Slot), va_P (dC, dI) vwCl [] H → va_D A [] → va_S A s.heap H locs → lv_has ls 4 [(1, .float v1), (2, .int v2)] → W p l e (headSpec wsX6_bitsOfFloat ({ frames := 0, cells := 0, slots := 0, locals := 0 } : Room)).room s m args below meth c H locs 0 0 Q (F0 m 40 ls []) := by
    intro v1 v2 h H locs ls hP hD hS hl
    refine lv_iconst (v := 0) hx hb dX6_bitsOfFloat_40 (by decide) ?_
    refine lv_istore_n (lv' := [(3, .int (0 : Int32)), (1, .float v1), (2, .int v2)]) hx hb dX6_bitsOfFloat_41 rfl hl (by decide) rfl (fun ls hl => ?_)
    obtain ⟨n9, h⟩ := h
    exact L42 n9 v1 v2 (0 : Int32) h _ _ _ (x_sub hP [] rfl) (hD.sub [] (by decide) rfl) hS (lv_sub hl [1, 2, 0] rfl)
  have L15 : ∀ n : Nat, ∀ (v1 : UInt32) (v2 v3 : Int32), wX6_bitsOfFloat_15 post n v1 v2 v3 → ∀ (H : Heap) (locs : List Loc) (ls : Array Slot), va_P (dC, dI) vwCl [] H → va_D A [] → va_S A s.heap H locs → lv_has ls 4 [(1, .float v1), (2, .int v2), (3, .int v3)] → W p l e (headSpec wsX6_bitsOfFloat ({ frames := 0, cells := 0, slots := 0, locals := 0 } : Room)).room s m args below meth c H locs 0 0 Q (F0 m 15 ls []) := by
    intro n
    induction n with
    | zero => intro v1 v2 v3 h; exact False.elim h
    | succ n15 ih15 =>
      intro v1 v2 v3 h H locs ls hP hD hS hl
      replace h : wX6_bitsOfFloat_15_b post (wX6_bitsOfFloat_15 post n15) v1 v2 v3 := h
      refine lv_iload_n hx hb dX6_bitsOfFloat_15 rfl (lv_at hl 2 rfl) ?_
      refine lv_bipush (v := 126) hx hb dX6_bitsOfFloat_16 (by decide) ?_
      refine lv_icmp_ge (tgt := 40) hx hb dX6_bitsOfFloat_18 (by decide) (fun c_3 => ?_) (fun c_3 => ?_)
      · replace h := h.1 c_3
        exact C40 v1 v2 h _ _ _ (x_sub hP [] rfl) (hD.sub [] (by decide) rfl) hS (lv_sub hl [0, 1] rfl)
      · replace h := h.2 c_3
        refine lv_fload_n hx hb dX6_bitsOfFloat_21 rfl (lv_at hl 0 rfl) ?_
        refine lv_fconst2 hx hb dX6_bitsOfFloat_22 ?_
        refine lv_fcmp hx hb dX6_bitsOfFloat_23 ?_
        refine lv_if_lt (tgt := 40) hx hb dX6_bitsOfFloat_24 (by decide) (fun c_4 => ?_) (fun c_4 => ?_)
        · replace h := h.1 c_4
          exact C40 v1 v2 h _ _ _ (x_sub hP [] rfl) (hD.sub [] (by decide) rfl) hS (lv_sub hl [0, 1] rfl)
        · replace h := h.2 c_4
          refine lv_fload_n hx hb dX6_bitsOfFloat_27 rfl (lv_at hl 0 rfl) ?_
          refine lv_fconst2 hx hb dX6_bitsOfFloat_28 ?_
          refine lv_fdiv hx hb dX6_bitsOfFloat_29 h.1 ?_
          replace h := h.2
          refine lv_fstore_n (lv' := [(1, .float (FP.fdiv v1 FP.fconst2)), (2, .int v2), (3, .int v3)]) hx hb dX6_bitsOfFloat_30 rfl hl (by decide) rfl (fun ls hl => ?_)
          refine lv_iinc (v := (v2 + (1 : Int32))) (lv' := [(2, .int (v2 + (1 : Int32))), (1, .float (FP.fdiv v1 FP.fconst2)), (3, .int v3)]) hx hb dX6_bitsOfFloat_31 hl (k := 1) rfl rfl (by decide) rfl (fun ls hl => ?_)
          refine lv_iinc (v := (v3 + (1 : Int32))) (lv' := [(3, .int (v3 + (1 : Int32))), (2, .int (v2 + (1 : Int32))), (1, .float (FP.fdiv v1 FP.fconst2))]) hx hb dX6_bitsOfFloat_34 hl (k := 2) rfl rfl (by decide) rfl (fun ls hl => ?_)
          refine lv_goto (tgt := 15) hx hb dX6_bitsOfFloat_37 (by decide) ?_
          exact ih15 (FP.fdiv v1 FP.fconst2) (v2 + (1 : Int32)) (v3 + (1 : Int32)) h _ _ _ (x_sub hP [] rfl) (hD.sub [] (by decide) rfl) hS (lv_sub hl [2, 1, 0] rfl)
  refine lv_fload_n hx hb dX6_bitsOfFloat_0 rfl (lv_at hl 0 rfl) ?_
  refine lv_fconst0 hx hb dX6_bitsOfFloat_1 ?_
  refine lv_fcmp hx hb dX6_bitsOfFloat_2 ?_
  refine lv_if_gt (tgt := 8) hx hb dX6_bitsOfFloat_3 (by decide) (fun c_5 => ?_) (fun c_5 => ?_)
  · replace h := h.1 c_5
    refine lv_fload_n hx hb dX6_bitsOfFloat_8 rfl (lv_at hl 0 rfl) ?_
    refine lv_fstore_n (lv' := [(1, .float v0), (0, .float v0)]) hx hb dX6_bitsOfFloat_9 rfl hl (by decide) rfl (fun ls hl => ?_)
    refine lv_bipush (v := 127) hx hb dX6_bitsOfFloat_10 (by decide) ?_
    refine lv_istore_n (lv' := [(2, .int (127 : Int32)), (1, .float v0), (0, .float v0)]) hx hb dX6_bitsOfFloat_12 rfl hl (by decide) rfl (fun ls hl => ?_)
    refine lv_iconst (v := 0) hx hb dX6_bitsOfFloat_13 (by decide) ?_
    refine lv_istore_n (lv' := [(3, .int (0 : Int32)), (2, .int (127 : Int32)), (1, .float v0), (0, .float v0)]) hx hb dX6_bitsOfFloat_14 rfl hl (by decide) rfl (fun ls hl => ?_)
    obtain ⟨n9, h⟩ := h
    exact L15 n9 v0 (127 : Int32) (0 : Int32) h _ _ _ (x_sub hP [] rfl) (hD.sub [] (by decide) rfl) hS (lv_sub hl [2, 1, 0] rfl)
  · replace h := h.2 c_5
    refine lv_iconst (v := 0) hx hb dX6_bitsOfFloat_6 (by decide) ?_
    rw [← hQ]
    exact W.iret (v := (0 : Int32)) hx hb hr (fun t ht hW => ⟨⟨(0 : Int32), (), rfl, h, x_end (w1 := []) hP hD hK [] rfl (by decide) rfl ht hW⟩, hS.F ht⟩) hS.2.2 dX6_bitsOfFloat_7

/-- KnapsackCore.byteAt(JI)B -/
def wX6_byteAt (post : Int32 → Prop) (v0 : Int64) (v2 : Int32) : Prop :=
  narrow .byte (.int (((((v0).toUInt64 >>> ((((56 : Int32) - ((8 : Int32) * v2))).toInt64.toUInt64 &&& Int64.toUInt64 63)).toInt64).toInt32).toInt8.toInt32)) = .int (((((v0).toUInt64 >>> ((((56 : Int32) - ((8 : Int32) * v2))).toInt64.toUInt64 &&& Int64.toUInt64 63)).toInt64).toInt32).toInt8.toInt32) ∧ post (((((v0).toUInt64 >>> ((((56 : Int32) - ((8 : Int32) * v2))).toInt64.toUInt64 &&& Int64.toUInt64 63)).toInt64).toInt32).toInt8.toInt32)
set_option maxHeartbeats 4000000 in
set_option maxRecDepth 100000 in
theorem mtX6_byteAt (l : Launch) (ad : (Nat → Nat) × (Nat → Nat)) (dC : Nat → ClassId) (dI : Nat → Nat → Nat) (cy : Nat → ClassId) (sz : Nat) (v0 : Int64) (v2 : Int32) {post : Int32 → Prop} (h : wX6_byteAt post v0 v2) : xMi l yX6_byteAt wsX6_byteAt ({ frames := 0, cells := 0, slots := 0, locals := 0 } : Room) ad (dC, dI) vwCl (xT cy) [.long v0, .int v2] [] sz (fun (r : Int32) (_ : Unit) => post r) (fun (_ : Unit) w => w = []) 0 0 := by
  unfold xMi
  refine Met.ofW (cc := cX6_byteAt) (maxL := 3) (ret := (some .byte)) (by decide +kernel) rfl ?_
  intro p e s m args below meth c s₁ B hml hv
  obtain ⟨rfl, hsz, hP, hK, hD0, hE⟩ := hv
  have hx := B.exec
  have hb := B.bytes
  have hr := B.returns
  have hts := atoms_spec (ws := wsX6_byteAt) B.pre
  have hown : s.vm.findClass RX6 = some m.cls := findClass_of_methodNamed B.named
  have hlocks := B.notSynchronized
  subst hsz
  have hD := hD0.self (sz := s.heap.size)
  generalize hAe : va_A [] s.heap.size = A at hD hE ⊢
  have hA : ∀ q : Nat, s.heap.size ≤ q → A q := fun q h => by rw [← hAe]; exact Or.inr h
  have hS : va_S A s.heap s.heap [] := va_S.rf
  have hl := lv_entry ([.long v0, .int v2]) (n := 3) (Nat.le_of_ble_eq_true rfl)
  rw [lg_entry_eq]
  generalize (lg_sl ([.long v0, .int v2]) ++ List.replicate (3 - (lg_sl ([.long v0, .int v2])).length) Slot.unset).toArray = ls at hl ⊢
  have hl : lv_has ls 3 [(0, .long v0), (2, .int v2)] := hl
  generalize hQ : MQ below _ _ s _ _ _ = Q
  generalize ([.long v0, .int v2] : List Value).toArray = args at hts hQ ⊢
  clear B hD0 hAe
  refine lv_lload_n hx hb dX6_byteAt_0 rfl (lv_at hl 0 rfl) ?_
  refine lv_bipush (v := 56) hx hb dX6_byteAt_1 (by decide) ?_
  refine lv_bipush (v := 8) hx hb dX6_byteAt_3 (by decide) ?_
  refine lv_iload_n hx hb dX6_byteAt_5 rfl (lv_at hl 1 rfl) ?_
  refine lv_imul hx hb dX6_byteAt_6 ?_
  refine lv_isub hx hb dX6_byteAt_7 ?_
  refine lv_lushr hx hb dX6_byteAt_8 rfl ?_
  refine lv_l2i hx hb dX6_byteAt_9 rfl ?_
  refine lv_i2b hx hb dX6_byteAt_10 rfl ?_
  rw [← hQ]
  exact W.zret (v := ((((v0).toUInt64 >>> ((((56 : Int32) - ((8 : Int32) * v2))).toInt64.toUInt64 &&& Int64.toUInt64 63)).toInt64).toInt32).toInt8.toInt32) hx hb hr h.1 (fun t ht hW => ⟨⟨((((v0).toUInt64 >>> ((((56 : Int32) - ((8 : Int32) * v2))).toInt64.toUInt64 &&& Int64.toUInt64 63)).toInt64).toInt32).toInt8.toInt32, (), rfl, h.2, x_end (w1 := []) hP hD hK [] rfl (by decide) rfl ht hW⟩, hS.F ht⟩) hS.2.2 dX6_byteAt_11

theorem qX2_breakIsItem : yX2_breakIsItem.cls = RX2 ∧ yX2_breakIsItem.cls ≠ "java/lang/invoke/MethodHandle" ∧ yX2_breakIsItem.cls ≠ "java/lang/invoke/VarHandle" ∧ (parseMethodDescriptor yX2_breakIsItem.desc).map (fun d => d.parameters.length) = some 0 := by decide +kernel
def wX6_linearBound_31 (t_core_ranked_items t_core_ranked_room t_core_ranked_breakPlace t_core_ranked_breakWeight t_core_ranked_breakProfit : Int32) (t_core_ranked_weights t_core_ranked_profits : Nat → Int32) (post : Int32 → Prop) (k0 : Int64) : Prop :=
  post ((((t_core_ranked_breakProfit).toInt64 + k0)).toInt32)
def wX6_linearBound_27 (t_core_ranked_items t_core_ranked_room t_core_ranked_breakPlace t_core_ranked_breakWeight t_core_ranked_breakProfit : Int32) (t_core_ranked_weights t_core_ranked_profits : Nat → Int32) (post : Int32 → Prop) (k0 : Int64) : Prop :=
  wX6_linearBound_31 t_core_ranked_items t_core_ranked_room t_core_ranked_breakPlace t_core_ranked_breakWeight t_core_ranked_breakProfit t_core_ranked_weights t_core_ranked_profits post k0
def wX6_linearBound_24 (t_core_ranked_items t_core_ranked_room t_core_ranked_breakPlace t_core_ranked_breakWeight t_core_ranked_breakProfit : Int32) (t_core_ranked_weights t_core_ranked_profits : Nat → Int32) (post : Int32 → Prop) (k1 : Int32) (k2 : Int64) : Prop :=
  wX2_worthDown t_core_ranked_items t_core_ranked_weights t_core_ranked_profits (fun r24 => wX6_linearBound_27 t_core_ranked_items t_core_ranked_room t_core_ranked_breakPlace t_core_ranked_breakWeight t_core_ranked_breakProfit t_core_ranked_weights t_core_ranked_profits post r24) k1 k2
def wX6_linearBound_12 (t_core_ranked_items t_core_ranked_room t_core_ranked_breakPlace t_core_ranked_breakWeight t_core_ranked_breakProfit : Int32) (t_core_ranked_weights t_core_ranked_profits : Nat → Int32) (post : Int32 → Prop) (k0 : Int32) : Prop :=
  (k0 = (0 : Int32) → wX6_linearBound_31 t_core_ranked_items t_core_ranked_room t_core_ranked_breakPlace t_core_ranked_breakWeight t_core_ranked_breakProfit t_core_ranked_weights t_core_ranked_profits post (0 : Int64)) ∧ (¬ k0 = (0 : Int32) → wX2_roomLeft t_core_ranked_room t_core_ranked_breakWeight (fun r21 => wX6_linearBound_24 t_core_ranked_items t_core_ranked_room t_core_ranked_breakPlace t_core_ranked_breakWeight t_core_ranked_breakProfit t_core_ranked_weights t_core_ranked_profits post t_core_ranked_breakPlace r21))
/-- KnapsackCore.linearBound()I -/
def wX6_linearBound (t_core_ranked_items t_core_ranked_room t_core_ranked_breakPlace t_core_ranked_breakWeight t_core_ranked_breakProfit : Int32) (t_core_ranked_weights t_core_ranked_profits : Nat → Int32) (post : Int32 → Prop)  : Prop :=
  wX2_breakIsItem t_core_ranked_items t_core_ranked_breakPlace (fun r9 => wX6_linearBound_12 t_core_ranked_items t_core_ranked_room t_core_ranked_breakPlace t_core_ranked_breakWeight t_core_ranked_breakProfit t_core_ranked_weights t_core_ranked_profits post r9)
theorem kX6_linearBound_0 : Cond.fieldLink RX6 169 "KnapsackCore$Ranked" "breakProfit" "I" ∈ wsX6_linearBound := (List.mem_cons_of_mem _ (List.mem_append_left _ (List.mem_append_left _ (List.mem_append_left _ (List.mem_append_left _ (List.mem_of_getElem? (i := 3) rfl))))))
theorem kX6_linearBound_1 : Cond.fieldLink RX6 161 "KnapsackCore$Ranked" "breakPlace" "I" ∈ wsX6_linearBound := (List.mem_cons_of_mem _ (List.mem_append_left _ (List.mem_append_left _ (List.mem_append_left _ (List.mem_append_left _ (List.mem_of_getElem? (i := 2) rfl))))))
theorem kX6_linearBound_2 : Cond.fieldLink RX6 30 "KnapsackCore" "core" "LKnapsackCore$Core;" ∈ wsX6_linearBound := (List.mem_cons_of_mem _ (List.mem_append_left _ (List.mem_append_left _ (List.mem_append_left _ (List.mem_append_left _ (List.mem_of_getElem? (i := 0) rfl))))))
theorem kX6_linearBound_3 : Cond.fieldLink RX6 157 "KnapsackCore$Core" "ranked" "LKnapsackCore$Ranked;" ∈ wsX6_linearBound := (List.mem_cons_of_mem _ (List.mem_append_left _ (List.mem_append_left _ (List.mem_append_left _ (List.mem_append_left _ (List.mem_of_getElem? (i := 1) rfl))))))
theorem iX6_linearBound_X2 : ∀ w ∈ u_ws RX2 TX2 9, w ∈ wsX6_linearBound := fun w h => (List.mem_cons_of_mem _ (List.mem_append_right _ h))
theorem iX6_linearBound_X6 : ∀ w ∈ u_ws RX6 TX6 11, w ∈ wsX6_linearBound := fun w h => (List.mem_cons_of_mem _ (List.mem_append_left _ (List.mem_append_left _ (List.mem_append_right _ h))))
theorem iX6_linearBound_X0 : ∀ w ∈ u_ws RX0 TX0 10, w ∈ wsX6_linearBound := fun w h => (List.mem_cons_of_mem _ (List.mem_append_left _ (List.mem_append_right _ h)))
set_option maxHeartbeats 4000000 in
set_option maxRecDepth 100000 in
theorem mtX6_linearBound (l : Launch) (ad : (Nat → Nat) × (Nat → Nat)) (dC : Nat → ClassId) (dI : Nat → Nat → Nat) (cy : Nat → ClassId) (a_t a_t_now a_t_images a_t_past a_t_core a_t_supposed a_t_trial a_t_reader a_t_front a_t_frontSpare a_t_core_ranked a_t_core_sets a_t_core_spare a_t_core_ranked_itemAt a_t_core_ranked_placeOf a_t_core_ranked_weights a_t_core_ranked_profits : Nat) (sz : Nat) (t_acts t_frontState t_core_most t_core_from t_core_to t_core_steps t_core_bestWeight t_core_bestProfit : Int32) (t_core_bestBits : Int64) (t_core_ranked_items t_core_ranked_room t_core_ranked_breakPlace t_core_ranked_breakWeight t_core_ranked_breakProfit : Int32) (t_core_ranked_weights t_core_ranked_profits : Nat → Int32) {post : Int32 → Prop} (h : wX6_linearBound t_core_ranked_items t_core_ranked_room t_core_ranked_breakPlace t_core_ranked_breakWeight t_core_ranked_breakProfit t_core_ranked_weights t_core_ranked_profits post) : xMi l yX6_linearBound wsX6_linearBound ({ frames := 2, cells := 0, slots := 0, locals := 48 } : Room) ad (dC, dI) vwCl (xT cy) [.ref a_t] [(a_t, .inr (6, [.ref a_t_now, .ref a_t_images, .ref a_t_past, .int t_acts, .ref a_t_core, .ref a_t_supposed, .ref a_t_trial, .ref a_t_reader, .ref a_t_front, .ref a_t_frontSpare, .int t_frontState])), (a_t_core, .inr (0, [.ref a_t_core_ranked, .ref a_t_core_sets, .ref a_t_core_spare, .int t_core_most, .int t_core_from, .int t_core_to, .int t_core_steps, .int t_core_bestWeight, .int t_core_bestProfit, .long t_core_bestBits])), (a_t_core_ranked, .inr (2, [.ref a_t_core_ranked_itemAt, .ref a_t_core_ranked_placeOf, .ref a_t_core_ranked_weights, .ref a_t_core_ranked_profits, .int t_core_ranked_items, .int t_core_ranked_room, .int t_core_ranked_breakPlace, .int t_core_ranked_breakWeight, .int t_core_ranked_breakProfit])), (a_t_core_ranked_weights, .inl (cy 0, 60, .inl t_core_ranked_weights)), (a_t_core_ranked_profits, .inl (cy 0, 60, .inl t_core_ranked_profits))] sz (fun (r : Int32) (_ : Unit) => post r) (fun (_ : Unit) w => w = [(a_t, .inr (6, [.ref a_t_now, .ref a_t_images, .ref a_t_past, .int t_acts, .ref a_t_core, .ref a_t_supposed, .ref a_t_trial, .ref a_t_reader, .ref a_t_front, .ref a_t_frontSpare, .int t_frontState])), (a_t_core, .inr (0, [.ref a_t_core_ranked, .ref a_t_core_sets, .ref a_t_core_spare, .int t_core_most, .int t_core_from, .int t_core_to, .int t_core_steps, .int t_core_bestWeight, .int t_core_bestProfit, .long t_core_bestBits])), (a_t_core_ranked, .inr (2, [.ref a_t_core_ranked_itemAt, .ref a_t_core_ranked_placeOf, .ref a_t_core_ranked_weights, .ref a_t_core_ranked_profits, .int t_core_ranked_items, .int t_core_ranked_room, .int t_core_ranked_breakPlace, .int t_core_ranked_breakWeight, .int t_core_ranked_breakProfit])), (a_t_core_ranked_weights, .inl (cy 0, 60, .inl t_core_ranked_weights)), (a_t_core_ranked_profits, .inl (cy 0, 60, .inl t_core_ranked_profits))]) 0 0 := by
  unfold xMi
  refine Met.ofW (cc := cX6_linearBound) (maxL := 4) (ret := (some .int)) (by decide +kernel) rfl ?_
  intro p e s m args below meth c s₁ B hml hv
  obtain ⟨rfl, hsz, hP, hK, hD0, hE⟩ := hv
  have hx := B.exec
  have hb := B.bytes
  have hr := B.returns
  have hts := atoms_spec (ws := wsX6_linearBound) B.pre
  have hown : s.vm.findClass RX6 = some m.cls := findClass_of_methodNamed B.named
  have hlocks := B.notSynchronized
  subst hsz
  have hD := hD0.self (sz := s.heap.size)
  generalize hAe : va_A [(a_t, .inr (6, [.ref a_t_now, .ref a_t_images, .ref a_t_past, .int t_acts, .ref a_t_core, .ref a_t_supposed, .ref a_t_trial, .ref a_t_reader, .ref a_t_front, .ref a_t_frontSpare, .int t_frontState])), (a_t_core, .inr (0, [.ref a_t_core_ranked, .ref a_t_core_sets, .ref a_t_core_spare, .int t_core_most, .int t_core_from, .int t_core_to, .int t_core_steps, .int t_core_bestWeight, .int t_core_bestProfit, .long t_core_bestBits])), (a_t_core_ranked, .inr (2, [.ref a_t_core_ranked_itemAt, .ref a_t_core_ranked_placeOf, .ref a_t_core_ranked_weights, .ref a_t_core_ranked_profits, .int t_core_ranked_items, .int t_core_ranked_room, .int t_core_ranked_breakPlace, .int t_core_ranked_breakWeight, .int t_core_ranked_breakProfit])), (a_t_core_ranked_weights, .inl (cy 0, 60, .inl t_core_ranked_weights)), (a_t_core_ranked_profits, .inl (cy 0, 60, .inl t_core_ranked_profits))] s.heap.size = A at hD hE ⊢
  have hA : ∀ q : Nat, s.heap.size ≤ q → A q := fun q h => by rw [← hAe]; exact Or.inr h
  have hS : va_S A s.heap s.heap [] := va_S.rf
  have hl := lv_entry ([.ref a_t]) (n := 4) (Nat.le_of_ble_eq_true rfl)
  rw [lg_entry_eq]
  generalize (lg_sl ([.ref a_t]) ++ List.replicate (4 - (lg_sl ([.ref a_t])).length) Slot.unset).toArray = ls at hl ⊢
  have hl : lv_has ls 4 [(0, .ref a_t)] := hl
  generalize hQ : MQ below _ _ s _ _ _ = Q
  generalize ([.ref a_t] : List Value).toArray = args at hts hQ ⊢
  clear B hD0 hAe
  have C31 : ∀ (k0 : Int64), wX6_linearBound_31 t_core_ranked_items t_core_ranked_room t_core_ranked_breakPlace t_core_ranked_breakWeight t_core_ranked_breakProfit t_core_ranked_weights t_core_ranked_profits post k0 → ∀ (H : Heap) (locs : List Loc) (ls : Array Slot), va_P (dC, dI) vwCl [(a_t, .inr (6, [.ref a_t_now, .ref a_t_images, .ref a_t_past, .int t_acts, .ref a_t_core, .ref a_t_supposed, .ref a_t_trial, .ref a_t_reader, .ref a_t_front, .ref a_t_frontSpare, .int t_frontState])), (a_t_core, .inr (0, [.ref a_t_core_ranked, .ref a_t_core_sets, .ref a_t_core_spare, .int t_core_most, .int t_core_from, .int t_core_to, .int t_core_steps, .int t_core_bestWeight, .int t_core_bestProfit, .long t_core_bestBits])), (a_t_core_ranked, .inr (2, [.ref a_t_core_ranked_itemAt, .ref a_t_core_ranked_placeOf, .ref a_t_core_ranked_weights, .ref a_t_core_ranked_profits, .int t_core_ranked_items, .int t_core_ranked_room, .int t_core_ranked_breakPlace, .int t_core_ranked_breakWeight, .int t_core_ranked_breakProfit])), (a_t_core_ranked_weights, .inl (cy 0, 60, .inl t_core_ranked_weights)), (a_t_core_ranked_profits, .inl (cy 0, 60, .inl t_core_ranked_profits))] H → va_D A [(a_t, .inr (6, [.ref a_t_now, .ref a_t_images, .ref a_t_past, .int t_acts, .ref a_t_core, .ref a_t_supposed, .ref a_t_trial, .ref a_t_reader, .ref a_t_front, .ref a_t_frontSpare, .int t_frontState])), (a_t_core, .inr (0, [.ref a_t_core_ranked, .ref a_t_core_sets, .ref a_t_core_spare, .int t_core_most, .int t_core_from, .int t_core_to, .int t_core_steps, .int t_core_bestWeight, .int t_core_bestProfit, .long t_core_bestBits])), (a_t_core_ranked, .inr (2, [.ref a_t_core_ranked_itemAt, .ref a_t_core_ranked_placeOf, .ref a_t_core_ranked_weights, .ref a_t_core_ranked_profits, .int t_core_ranked_items, .int t_core_ranked_room, .int t_core_ranked_breakPlace, .int t_core_ranked_breakWeight, .int t_core_ranked_breakProfit])), (a_t_core_ranked_weights, .inl (cy 0, 60, .inl t_core_ranked_weights)), (a_t_core_ranked_profits, .inl (cy 0, 60, .inl t_core_ranked_profits))] → va_S A s.heap H locs → lv_has ls 4 [(1, .ref a_t_core_ranked)] → W p l e (headSpec wsX6_linearBound ({ frames := 2, cells := 0, slots := 0, locals := 48 } : Room)).room s m args below meth c H locs 0 0 Q (F0 m 31 ls [.long k0]) := by
    intro k0 h H locs ls hP hD hS hl
    refine lv_lstore_n (lv' := [(2, .long k0), (1, .ref a_t_core_ranked)]) hx hb dX6_linearBound_31 rfl hl (by decide) rfl (fun ls hl => ?_)
    refine lv_aload_n hx hb dX6_linearBound_32 rfl (lv_at hl 1 rfl) ?_
    refine va_get (D := (dC, dI)) (ci := 2) (v := .int t_core_ranked_breakProfit) (C := RX2) (T := TX2) (N := 9) hx hb hts iX6_linearBound_X2 hown hK hP 2 rfl rfl 8 (Nat.le_of_ble_eq_true rfl) (hts _ kX6_linearBound_0) (fun _ h9 => h9) rfl dX6_linearBound_33 ?_
    refine lv_i2l hx hb dX6_linearBound_36 rfl ?_
    refine lv_lload_n hx hb dX6_linearBound_37 rfl (lv_at hl 0 rfl) ?_
    refine lv_ladd hx hb dX6_linearBound_38 ?_
    refine lv_l2i hx hb dX6_linearBound_39 rfl ?_
    rw [← hQ]
    exact W.iret (v := (((t_core_ranked_breakProfit).toInt64 + k0)).toInt32) hx hb hr (fun t ht hW => ⟨⟨(((t_core_ranked_breakProfit).toInt64 + k0)).toInt32, (), rfl, h, x_end (w1 := [(a_t, .inr (6, [.ref a_t_now, .ref a_t_images, .ref a_t_past, .int t_acts, .ref a_t_core, .ref a_t_supposed, .ref a_t_trial, .ref a_t_reader, .ref a_t_front, .ref a_t_frontSpare, .int t_frontState])), (a_t_core, .inr (0, [.ref a_t_core_ranked, .ref a_t_core_sets, .ref a_t_core_spare, .int t_core_most, .int t_core_from, .int t_core_to, .int t_core_steps, .int t_core_bestWeight, .int t_core_bestProfit, .long t_core_bestBits])), (a_t_core_ranked, .inr (2, [.ref a_t_core_ranked_itemAt, .ref a_t_core_ranked_placeOf, .ref a_t_core_ranked_weights, .ref a_t_core_ranked_profits, .int t_core_ranked_items, .int t_core_ranked_room, .int t_core_ranked_breakPlace, .int t_core_ranked_breakWeight, .int t_core_ranked_breakProfit])), (a_t_core_ranked_weights, .inl (cy 0, 60, .inl t_core_ranked_weights)), (a_t_core_ranked_profits, .inl (cy 0, 60, .inl t_core_ranked_profits))]) hP hD hK [0, 1, 2, 3, 4] rfl (by decide) rfl ht hW⟩, hS.F ht⟩) hS.2.2 dX6_linearBound_40
  refine lv_aload_n hx hb dX6_linearBound_0 rfl (lv_at hl 0 rfl) ?_
  refine va_get (D := (dC, dI)) (ci := 6) (v := .ref a_t_core) (C := RX6) (T := TX6) (N := 11) hx hb hts iX6_linearBound_X6 hown hK hP 0 rfl rfl 4 (Nat.le_of_ble_eq_true rfl) (hts _ kX6_linearBound_2) (fun _ h9 => h9) rfl dX6_linearBound_1 ?_
  refine va_get (D := (dC, dI)) (ci := 0) (v := .ref a_t_core_ranked) (C := RX0) (T := TX0) (N := 10) hx hb hts iX6_linearBound_X0 hown hK hP 1 rfl rfl 0 (Nat.le_of_ble_eq_true rfl) (hts _ kX6_linearBound_3) (fun _ h9 => h9) rfl dX6_linearBound_4 ?_
  refine lv_astore_n (lv' := [(1, .ref a_t_core_ranked), (0, .ref a_t)]) hx hb dX6_linearBound_7 rfl hl (by decide) rfl (fun ls hl => ?_)
  refine lv_aload_n hx hb dX6_linearBound_8 rfl (lv_at hl 0 rfl) ?_
  refine xVi0 (As := []) (rest := []) ⟨hx, hb, hml, hown, hts⟩ (mtX2_breakIsItem l ad dC dI cy a_t_core_ranked a_t_core_ranked_itemAt a_t_core_ranked_placeOf a_t_core_ranked_weights a_t_core_ranked_profits _ t_core_ranked_items t_core_ranked_room t_core_ranked_breakPlace t_core_ranked_breakWeight t_core_ranked_breakProfit  h) (cwV 0 hts gX6_linearBound_X2_breakIsItem rfl rfl rfl qX2_breakIsItem ⟨Nat.le_of_ble_eq_true rfl, Nat.le_of_ble_eq_true rfl⟩) hE hK hP hD hS hA 2 0 rfl rfl rfl [2] rfl (by decide) rfl hl.1 rfl (Nat.le_of_ble_eq_true rfl) dX6_linearBound_9 ⟨Nat.le_refl _, Nat.le_refl _⟩ (fun r9 H locs h hP hS => ?_)
  try dsimp only at h
  refine lv_if_eq (tgt := 30) hx hb dX6_linearBound_12 (by decide) (fun c_1 => ?_) (fun c_1 => ?_)
  · replace h := h.1 c_1
    refine lv_lconst (v := 0) hx hb dX6_linearBound_30 (by decide) ?_
    exact C31 (0 : Int64) h _ _ _ (x_sub hP [0, 1, 2, 3, 4] rfl) (hD.sub [0, 1, 2, 3, 4] (by decide) rfl) hS (lv_sub hl [0] rfl)
  · replace h := h.2 c_1
    refine lv_aload_n hx hb dX6_linearBound_15 rfl (lv_at hl 0 rfl) ?_
    refine lv_aload_n hx hb dX6_linearBound_16 rfl (lv_at hl 0 rfl) ?_
    refine va_get (D := (dC, dI)) (ci := 2) (v := .int t_core_ranked_breakPlace) (C := RX2) (T := TX2) (N := 9) hx hb hts iX6_linearBound_X2 hown hK hP 2 rfl rfl 6 (Nat.le_of_ble_eq_true rfl) (hts _ kX6_linearBound_1) (fun _ h9 => h9) rfl dX6_linearBound_17 ?_
    refine lv_aload_n hx hb dX6_linearBound_20 rfl (lv_at hl 0 rfl) ?_
    refine xVl0 (As := []) (rest := [.int t_core_ranked_breakPlace, .ref a_t_core_ranked]) ⟨hx, hb, hml, hown, hts⟩ (mtX2_roomLeft l ad dC dI cy a_t_core_ranked a_t_core_ranked_itemAt a_t_core_ranked_placeOf a_t_core_ranked_weights a_t_core_ranked_profits _ t_core_ranked_items t_core_ranked_room t_core_ranked_breakPlace t_core_ranked_breakWeight t_core_ranked_breakProfit  h) (cwV 0 hts gX6_linearBound_X2_roomLeft rfl rfl rfl qX2_roomLeft ⟨Nat.le_of_ble_eq_true rfl, Nat.le_of_ble_eq_true rfl⟩) hE hK hP hD hS hA 2 0 rfl rfl rfl [2] rfl (by decide) rfl hl.1 rfl (Nat.le_of_ble_eq_true rfl) dX6_linearBound_21 ⟨Nat.le_refl _, Nat.le_refl _⟩ (fun r21 H locs h hP hS => ?_)
    try dsimp only at h
    refine xVl0 (As := [.int t_core_ranked_breakPlace, .long r21]) (rest := []) ⟨hx, hb, hml, hown, hts⟩ (mtX2_worthDown l ad dC dI cy a_t_core_ranked a_t_core_ranked_itemAt a_t_core_ranked_placeOf a_t_core_ranked_weights a_t_core_ranked_profits _ t_core_ranked_items t_core_ranked_room t_core_ranked_breakPlace t_core_ranked_breakWeight t_core_ranked_breakProfit t_core_ranked_weights t_core_ranked_profits t_core_ranked_breakPlace r21 h) (cwV 2 hts gX6_linearBound_X2_worthDown rfl rfl rfl qX2_worthDown ⟨Nat.le_of_ble_eq_true rfl, Nat.le_of_ble_eq_true rfl⟩) hE hK hP hD hS hA 2 0 rfl rfl rfl [2, 3, 4] rfl (by decide) rfl hl.1 rfl (Nat.le_of_ble_eq_true rfl) dX6_linearBound_24 ⟨Nat.le_refl _, Nat.le_refl _⟩ (fun r24 H locs h hP hS => ?_)
    try dsimp only at h
    refine lv_goto (tgt := 31) hx hb dX6_linearBound_27 (by decide) ?_
    exact C31 r24 h _ _ _ (x_sub hP [0, 1, 2, 3, 4] rfl) (hD.sub [0, 1, 2, 3, 4] (by decide) rfl) hS (lv_sub hl [0] rfl)
