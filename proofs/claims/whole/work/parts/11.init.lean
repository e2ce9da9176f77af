theorem kX1_init_0 : Cond.methodLink RX1 3 objectInit ∈ wsX1_init := (List.mem_cons_of_mem _ (List.mem_append_left _ (List.mem_of_getElem? (i := 0) rfl)))
theorem kX1_init_1 : Cond.instanceMethod objectInit ∈ wsX1_init := (List.mem_cons_of_mem _ (List.mem_append_left _ (List.mem_of_getElem? (i := 1) rfl)))
theorem kX1_init_2 : Cond.code objectInit ⟨#[0xb1]⟩ 1 none ∈ wsX1_init := (List.mem_cons_of_mem _ (List.mem_append_left _ (List.mem_of_getElem? (i := 2) rfl)))
theorem kX1_init_3 : Cond.arrayClass .int ∈ wsX1_init := (List.mem_cons_of_mem _ (List.mem_append_left _ (List.mem_of_getElem? (i := 3) rfl)))
theorem kX1_init_4 : Cond.fieldLink RX1 9 "KnapsackCore$Load" "weights" "[I" ∈ wsX1_init := (List.mem_cons_of_mem _ (List.mem_append_left _ (List.mem_of_getElem? (i := 4) rfl)))
theorem kX1_init_5 : Cond.fieldLink RX1 15 "KnapsackCore$Load" "profits" "[I" ∈ wsX1_init := (List.mem_cons_of_mem _ (List.mem_append_left _ (List.mem_of_getElem? (i := 5) rfl)))
theorem kX1_init_6 : Cond.fieldLink RX1 18 "KnapsackCore$Load" "room" "I" ∈ wsX1_init := (List.mem_cons_of_mem _ (List.mem_append_left _ (List.mem_of_getElem? (i := 6) rfl)))
theorem kX1_init_7 : Cond.fieldLink RX1 22 "KnapsackCore$Load" "most" "I" ∈ wsX1_init := (List.mem_cons_of_mem _ (List.mem_append_left _ (List.mem_of_getElem? (i := 7) rfl)))
theorem iX1_init_X1 : ∀ w ∈ u_ws RX1 TX1 6, w ∈ wsX1_init := fun w h => (List.mem_cons_of_mem _ (List.mem_append_right _ h))
set_option maxHeartbeats 4000000 in
set_option maxRecDepth 100000 in
/-- new KnapsackCore$Load -/
theorem mtX1_init (l : Launch) (ad : (Nat → Nat) × (Nat → Nat)) (dC : Nat → ClassId) (dI : Nat → Nat → Nat) (cy : Nat → ClassId) (a_t : Nat) (sz : Nat) : xMv l yX1_init wsX1_init ({ frames := 1, cells := 2, slots := 120, locals := 30 } : Room) ad (dC, dI) vwCl (xT cy) [.ref a_t] [(a_t, .inr (1, [.null, .null, .int (0 : Int32), .int (0 : Int32), .int (0 : Int32), .int (0 : Int32)]))] sz (fun (_ : Unit) => True) (fun (_ : Unit) w => ∃ (q_1 : Nat) (q_2 : Nat), w = [(a_t, .inr (1, [.ref q_1, .ref q_2, .int (0 : Int32), .int (100 : Int32), .int (400 : Int32), .int (0 : Int32)])), (q_1, .inl (cy 0, 60, .inl (fun _ => 0))), (q_2, .inl (cy 0, 60, .inl (fun _ => 0)))]) 2 120 := by
  unfold xMv
  refine Met.ofW (cc := cX1_init) (maxL := 1) (ret := none) (by decide) rfl ?_
  intro p e s m args below meth c s₁ B hml hv
  obtain ⟨rfl, hsz, hP, hK, hD0, hE⟩ := hv
  have hx := B.exec
  have hb := B.bytes
  have hr := B.returns
  have hts := atoms_spec (ws := wsX1_init) B.pre
  have hown : s.vm.findClass RX1 = some m.cls := findClass_of_methodNamed B.named
  have hlocks := B.notSynchronized
  have hin : meth.name = "<init>" := (name_of_methodNamed B.named B.method).1
  subst hsz
  have hD := hD0.self (sz := s.heap.size)
  generalize hAe : va_A [(a_t, .inr (1, [.null, .null, .int (0 : Int32), .int (0 : Int32), .int (0 : Int32), .int (0 : Int32)]))] s.heap.size = A at hD hE ⊢
  have hA : ∀ q : Nat, s.heap.size ≤ q → A q := fun q h => by rw [← hAe]; exact Or.inr h
  have hS : va_S A s.heap s.heap [] := va_S.rf
  have hl := lv_entry ([.ref a_t]) (n := 1) (Nat.le_of_ble_eq_true rfl)
  rw [lg_entry_eq]
  generalize (lg_sl ([.ref a_t]) ++ List.replicate (1 - (lg_sl ([.ref a_t])).length) Slot.unset).toArray = ls at hl ⊢
  have hl : lv_has ls 1 [(0, .ref a_t)] := hl
  generalize hQ : MQ below _ _ s _ _ _ = Q
  generalize ([.ref a_t] : List Value).toArray = args at hts hQ ⊢
  clear B hD0 hAe
  refine lv_aload_n hx hb dX1_init_0 rfl (lv_at hl 0 rfl) ?_
  refine W.objInit hx hb hown (hts _ kX1_init_0) (hts _ kX1_init_1) (hts _ kX1_init_2) rfl (by rw [hml]; exact hl.1) rfl dX1_init_1 (Nat.le_of_ble_eq_true rfl) (Nat.le_of_ble_eq_true rfl) ?_
  refine W.eq (g2 := F0 m 4 ls []) rfl ?_
  refine lv_aload_n hx hb dX1_init_4 rfl (lv_at hl 0 rfl) ?_
  refine lv_bipush (v := 60) hx hb dX1_init_5 (by decide) ?_
  refine va_newa (D := (dC, dI)) (atype := .int) (ty := .int) (N' := 60) (a0 := (60, .inl (fun _ => 0))) hx hb (hts _ kX1_init_3) rfl hK hP hD hS hA (fun _ => rfl) (by decide) (by decide) (by decide) (Nat.le_of_ble_eq_true rfl) (Nat.le_of_ble_eq_true rfl) dX1_init_7 (fun q_1 cA H hK9 hP hD hS => ?_)
  obtain rfl : cA = cy 0 := x_same hK hK9 0 rfl
  have hP : va_P (dC, dI) vwCl [(a_t, .inr (1, [.null, .null, .int (0 : Int32), .int (0 : Int32), .int (0 : Int32), .int (0 : Int32)])), (q_1, .inl (cy 0, 60, .inl (fun _ => 0)))] H := hP
  have hD : va_D A [(a_t, .inr (1, [.null, .null, .int (0 : Int32), .int (0 : Int32), .int (0 : Int32), .int (0 : Int32)])), (q_1, .inl (cy 0, 60, .inl (fun _ => 0)))] := hD
  refine va_putF (D := (dC, dI)) (ci := 1) (v := .ref q_1) (C := RX1) (T := TX1) (N := 6) hx hb hts iX1_init_X1 tyX1 tyX1_ok nmX1 hown hK hP hD hS 0 rfl rfl 0 (Nat.le_of_ble_eq_true rfl) (hts _ kX1_init_4) (fun _ h9 => h9) rfl hin rfl (tyX1_ok 0 (Nat.le_of_ble_eq_true rfl)) rfl rfl (Nat.le_of_ble_eq_true rfl) dX1_init_9 (fun H locs hP hD hS => ?_)
  have hP : va_P (dC, dI) vwCl [(a_t, .inr (1, [.ref q_1, .null, .int (0 : Int32), .int (0 : Int32), .int (0 : Int32), .int (0 : Int32)])), (q_1, .inl (cy 0, 60, .inl (fun _ => 0)))] H := hP
  have hD : va_D A [(a_t, .inr (1, [.ref q_1, .null, .int (0 : Int32), .int (0 : Int32), .int (0 : Int32), .int (0 : Int32)])), (q_1, .inl (cy 0, 60, .inl (fun _ => 0)))] := hD
  refine lv_aload_n hx hb dX1_init_12 rfl (lv_at hl 0 rfl) ?_
  refine lv_bipush (v := 60) hx hb dX1_init_13 (by decide) ?_
  refine va_newa (D := (dC, dI)) (atype := .int) (ty := .int) (N' := 60) (a0 := (60, .inl (fun _ => 0))) hx hb (hts _ kX1_init_3) rfl hK hP hD hS hA (fun _ => rfl) (by decide) (by decide) (by decide) (Nat.le_of_ble_eq_true rfl) (Nat.le_of_ble_eq_true rfl) dX1_init_15 (fun q_2 cA H hK9 hP hD hS => ?_)
  obtain rfl : cA = cy 0 := x_same hK hK9 0 rfl
  have hP : va_P (dC, dI) vwCl [(a_t, .inr (1, [.ref q_1, .null, .int (0 : Int32), .int (0 : Int32), .int (0 : Int32), .int (0 : Int32)])), (q_1, .inl (cy 0, 60, .inl (fun _ => 0))), (q_2, .inl (cy 0, 60, .inl (fun _ => 0)))] H := hP
  have hD : va_D A [(a_t, .inr (1, [.ref q_1, .null, .int (0 : Int32), .int (0 : Int32), .int (0 : Int32), .int (0 : Int32)])), (q_1, .inl (cy 0, 60, .inl (fun _ => 0))), (q_2, .inl (cy 0, 60, .inl (fun _ => 0)))] := hD
  refine va_putF (D := (dC, dI)) (ci := 1) (v := .ref q_2) (C := RX1) (T := TX1) (N := 6) hx hb hts iX1_init_X1 tyX1 tyX1_ok nmX1 hown hK hP hD hS 0 rfl rfl 1 (Nat.le_of_ble_eq_true rfl) (hts _ kX1_init_5) (fun _ h9 => h9) rfl hin rfl (tyX1_ok 1 (Nat.le_of_ble_eq_true rfl)) rfl rfl (Nat.le_of_ble_eq_true rfl) dX1_init_17 (fun H locs hP hD hS => ?_)
  have hP : va_P (dC, dI) vwCl [(a_t, .inr (1, [.ref q_1, .ref q_2, .int (0 : Int32), .int (0 : Int32), .int (0 : Int32), .int (0 : Int32)])), (q_1, .inl (cy 0, 60, .inl (fun _ => 0))), (q_2, .inl (cy 0, 60, .inl (fun _ => 0)))] H := hP
  have hD : va_D A [(a_t, .inr (1, [.ref q_1, .ref q_2, .int (0 : Int32), .int (0 : Int32), .int (0 : Int32), .int (0 : Int32)])), (q_1, .inl (cy 0, 60, .inl (fun _ => 0))), (q_2, .inl (cy 0, 60, .inl (fun _ => 0)))] := hD
  refine lv_aload_n hx hb dX1_init_20 rfl (lv_at hl 0 rfl) ?_
  refine lv_bipush (v := 100) hx hb dX1_init_21 (by decide) ?_
  refine va_put (D := (dC, dI)) (ci := 1) (v := .int (100 : Int32)) (C := RX1) (T := TX1) (N := 6) hx hb hts iX1_init_X1 tyX1 tyX1_ok nmX1 hown hK hP hD hS 0 rfl rfl 3 (Nat.le_of_ble_eq_true rfl) (hts _ kX1_init_6) (fun _ h9 => h9) rfl (tyX1_ok 3 (Nat.le_of_ble_eq_true rfl)) rfl rfl (Nat.le_of_ble_eq_true rfl) dX1_init_23 (fun H locs hP hD hS => ?_)
  have hP : va_P (dC, dI) vwCl [(a_t, .inr (1, [.ref q_1, .ref q_2, .int (0 : Int32), .int (100 : Int32), .int (0 : Int32), .int (0 : Int32)])), (q_1, .inl (cy 0, 60, .inl (fun _ => 0))), (q_2, .inl (cy 0, 60, .inl (fun _ => 0)))] H := hP
  have hD : va_D A [(a_t, .inr (1, [.ref q_1, .ref q_2, .int (0 : Int32), .int (100 : Int32), .int (0 : Int32), .int (0 : Int32)])), (q_1, .inl (cy 0, 60, .inl (fun _ => 0))), (q_2, .inl (cy 0, 60, .inl (fun _ => 0)))] := hD
  refine lv_aload_n hx hb dX1_init_26 rfl (lv_at hl 0 rfl) ?_
  refine lv_sipush (v := 400) hx hb dX1_init_27 (by decide) ?_
  refine va_put (D := (dC, dI)) (ci := 1) (v := .int (400 : Int32)) (C := RX1) (T := TX1) (N := 6) hx hb hts iX1_init_X1 tyX1 tyX1_ok nmX1 hown hK hP hD hS 0 rfl rfl 4 (Nat.le_of_ble_eq_true rfl) (hts _ kX1_init_7) (fun _ h9 => h9) rfl (tyX1_ok 4 (Nat.le_of_ble_eq_true rfl)) rfl rfl (Nat.le_of_ble_eq_true rfl) dX1_init_30 (fun H locs hP hD hS => ?_)
  have hP : va_P (dC, dI) vwCl [(a_t, .inr (1, [.ref q_1, .ref q_2, .int (0 : Int32), .int (100 : Int32), .int (400 : Int32), .int (0 : Int32)])), (q_1, .inl (cy 0, 60, .inl (fun _ => 0))), (q_2, .inl (cy 0, 60, .inl (fun _ => 0)))] H := hP
  have hD : va_D A [(a_t, .inr (1, [.ref q_1, .ref q_2, .int (0 : Int32), .int (100 : Int32), .int (400 : Int32), .int (0 : Int32)])), (q_1, .inl (cy 0, 60, .inl (fun _ => 0))), (q_2, .inl (cy 0, 60, .inl (fun _ => 0)))] := hD
  refine W.widen (k := 2) (n := 120) (Nat.le_of_ble_eq_true rfl) (Nat.le_of_ble_eq_true rfl) ?_
  rw [← hQ]
  exact W.vret hx hb hr (fun t ht hW => ⟨⟨(), rfl, trivial, x_end (w1 := [(a_t, .inr (1, [.ref q_1, .ref q_2, .int (0 : Int32), .int (100 : Int32), .int (400 : Int32), .int (0 : Int32)])), (q_1, .inl (cy 0, 60, .inl (fun _ => 0))), (q_2, .inl (cy 0, 60, .inl (fun _ => 0)))]) hP hD hK [0, 1, 2] rfl (by decide +kernel) ⟨q_1, q_2, rfl⟩ ht hW⟩, hS.F ht⟩) hS.2.2 dX1_init_33

theorem kX4_init_0 : Cond.methodLink RX4 1 objectInit ∈ wsX4_init := (List.mem_cons_of_mem _ (List.mem_append_left _ (List.mem_of_getElem? (i := 0) rfl)))
theorem kX4_init_1 : Cond.instanceMethod objectInit ∈ wsX4_init := (List.mem_cons_of_mem _ (List.mem_append_left _ (List.mem_of_getElem? (i := 1) rfl)))
theorem kX4_init_2 : Cond.code objectInit ⟨#[0xb1]⟩ 1 none ∈ wsX4_init := (List.mem_cons_of_mem _ (List.mem_append_left _ (List.mem_of_getElem? (i := 2) rfl)))
theorem kX4_init_3 : Cond.arrayClass .int ∈ wsX4_init := (List.mem_cons_of_mem _ (List.mem_append_left _ (List.mem_of_getElem? (i := 3) rfl)))
theorem kX4_init_4 : Cond.fieldLink RX4 9 "KnapsackCore$Sets" "weights" "[I" ∈ wsX4_init := (List.mem_cons_of_mem _ (List.mem_append_left _ (List.mem_of_getElem? (i := 4) rfl)))
theorem kX4_init_5 : Cond.fieldLink RX4 13 "KnapsackCore$Sets" "profits" "[I" ∈ wsX4_init := (List.mem_cons_of_mem _ (List.mem_append_left _ (List.mem_of_getElem? (i := 5) rfl)))
theorem kX4_init_6 : Cond.arrayClass .long ∈ wsX4_init := (List.mem_cons_of_mem _ (List.mem_append_left _ (List.mem_of_getElem? (i := 6) rfl)))
theorem kX4_init_7 : Cond.fieldLink RX4 16 "KnapsackCore$Sets" "bits" "[J" ∈ wsX4_init := (List.mem_cons_of_mem _ (List.mem_append_left _ (List.mem_of_getElem? (i := 7) rfl)))
theorem iX4_init_X4 : ∀ w ∈ u_ws RX4 TX4 4, w ∈ wsX4_init := fun w h => (List.mem_cons_of_mem _ (List.mem_append_right _ h))
set_option maxHeartbeats 4000000 in
set_option maxRecDepth 100000 in
/-- new KnapsackCore$Sets -/
theorem mtX4_init (l : Launch) (ad : (Nat → Nat) × (Nat → Nat)) (dC : Nat → ClassId) (dI : Nat → Nat → Nat) (cy : Nat → ClassId) (a_t : Nat) (sz : Nat) : xMv l yX4_init wsX4_init ({ frames := 1, cells := 3, slots := 48, locals := 30 } : Room) ad (dC, dI) vwCl (xT cy) [.ref a_t] [(a_t, .inr (4, [.null, .null, .null, .int (0 : Int32)]))] sz (fun (_ : Unit) => True) (fun (_ : Unit) w => ∃ (q_1 : Nat) (q_2 : Nat) (q_3 : Nat), w = [(a_t, .inr (4, [.ref q_1, .ref q_2, .ref q_3, .int (0 : Int32)])), (q_1, .inl (cy 0, 16, .inl (fun _ => 0))), (q_2, .inl (cy 0, 16, .inl (fun _ => 0))), (q_3, .inl (cy 1, 16, .inr (.inl (fun _ => 0))))]) 3 48 := by
  unfold xMv
  refine Met.ofW (cc := cX4_init) (maxL := 1) (ret := none) (by decide) rfl ?_
  intro p e s m args below meth c s₁ B hml hv
  obtain ⟨rfl, hsz, hP, hK, hD0, hE⟩ := hv
  have hx := B.exec
  have hb := B.bytes
  have hr := B.returns
  have hts := atoms_spec (ws := wsX4_init) B.pre
  have hown : s.vm.findClass RX4 = some m.cls := findClass_of_methodNamed B.named
  have hlocks := B.notSynchronized
  have hin : meth.name = "<init>" := (name_of_methodNamed B.named B.method).1
  subst hsz
  have hD := hD0.self (sz := s.heap.size)
  generalize hAe : va_A [(a_t, .inr (4, [.null, .null, .null, .int (0 : Int32)]))] s.heap.size = A at hD hE ⊢
  have hA : ∀ q : Nat, s.heap.size ≤ q → A q := fun q h => by rw [← hAe]; exact Or.inr h
  have hS : va_S A s.heap s.heap [] := va_S.rf
  have hl := lv_entry ([.ref a_t]) (n := 1) (Nat.le_of_ble_eq_true rfl)
  rw [lg_entry_eq]
  generalize (lg_sl ([.ref a_t]) ++ List.replicate (1 - (lg_sl ([.ref a_t])).length) Slot.unset).toArray = ls at hl ⊢
  have hl : lv_has ls 1 [(0, .ref a_t)] := hl
  generalize hQ : MQ below _ _ s _ _ _ = Q
  generalize ([.ref a_t] : List Value).toArray = args at hts hQ ⊢
  clear B hD0 hAe
  refine lv_aload_n hx hb dX4_init_0 rfl (lv_at hl 0 rfl) ?_
  refine W.objInit hx hb hown (hts _ kX4_init_0) (hts _ kX4_init_1) (hts _ kX4_init_2) rfl (by rw [hml]; exact hl.1) rfl dX4_init_1 (Nat.le_of_ble_eq_true rfl) (Nat.le_of_ble_eq_true rfl) ?_
  refine W.eq (g2 := F0 m 4 ls []) rfl ?_
  refine lv_aload_n hx hb dX4_init_4 rfl (lv_at hl 0 rfl) ?_
  refine lv_bipush (v := 16) hx hb dX4_init_5 (by decide) ?_
  refine va_newa (D := (dC, dI)) (atype := .int) (ty := .int) (N' := 16) (a0 := (16, .inl (fun _ => 0))) hx hb (hts _ kX4_init_3) rfl hK hP hD hS hA (fun _ => rfl) (by decide) (by decide) (by decide) (Nat.le_of_ble_eq_true rfl) (Nat.le_of_ble_eq_true rfl) dX4_init_7 (fun q_1 cA H hK9 hP hD hS => ?_)
  obtain rfl : cA = cy 0 := x_same hK hK9 0 rfl
  have hP : va_P (dC, dI) vwCl [(a_t, .inr (4, [.null, .null, .null, .int (0 : Int32)])), (q_1, .inl (cy 0, 16, .inl (fun _ => 0)))] H := hP
  have hD : va_D A [(a_t, .inr (4, [.null, .null, .null, .int (0 : Int32)])), (q_1, .inl (cy 0, 16, .inl (fun _ => 0)))] := hD
  refine va_put (D := (dC, dI)) (ci := 4) (v := .ref q_1) (C := RX4) (T := TX4) (N := 4) hx hb hts iX4_init_X4 tyX4 tyX4_ok nmX4 hown hK hP hD hS 0 rfl rfl 0 (Nat.le_of_ble_eq_true rfl) (hts _ kX4_init_4) (fun _ h9 => h9) rfl (tyX4_ok 0 (Nat.le_of_ble_eq_true rfl)) rfl rfl (Nat.le_of_ble_eq_true rfl) dX4_init_9 (fun H locs hP hD hS => ?_)
  have hP : va_P (dC, dI) vwCl [(a_t, .inr (4, [.ref q_1, .null, .null, .int (0 : Int32)])), (q_1, .inl (cy 0, 16, .inl (fun _ => 0)))] H := hP
  have hD : va_D A [(a_t, .inr (4, [.ref q_1, .null, .null, .int (0 : Int32)])), (q_1, .inl (cy 0, 16, .inl (fun _ => 0)))] := hD
  refine lv_aload_n hx hb dX4_init_12 rfl (lv_at hl 0 rfl) ?_
  refine lv_bipush (v := 16) hx hb dX4_init_13 (by decide) ?_
  refine va_newa (D := (dC, dI)) (atype := .int) (ty := .int) (N' := 16) (a0 := (16, .inl (fun _ => 0))) hx hb (hts _ kX4_init_3) rfl hK hP hD hS hA (fun _ => rfl) (by decide) (by decide) (by decide) (Nat.le_of_ble_eq_true rfl) (Nat.le_of_ble_eq_true rfl) dX4_init_15 (fun q_2 cA H hK9 hP hD hS => ?_)
  obtain rfl : cA = cy 0 := x_same hK hK9 0 rfl
  have hP : va_P (dC, dI) vwCl [(a_t, .inr (4, [.ref q_1, .null, .null, .int (0 : Int32)])), (q_1, .inl (cy 0, 16, .inl (fun _ => 0))), (q_2, .inl (cy 0, 16, .inl (fun _ => 0)))] H := hP
  have hD : va_D A [(a_t, .inr (4, [.ref q_1, .null, .null, .int (0 : Int32)])), (q_1, .inl (cy 0, 16, .inl (fun _ => 0))), (q_2, .inl (cy 0, 16, .inl (fun _ => 0)))] := hD
  refine va_put (D := (dC, dI)) (ci := 4) (v := .ref q_2) (C := RX4) (T := TX4) (N := 4) hx hb hts iX4_init_X4 tyX4 tyX4_ok nmX4 hown hK hP hD hS 0 rfl rfl 1 (Nat.le_of_ble_eq_true rfl) (hts _ kX4_init_5) (fun _ h9 => h9) rfl (tyX4_ok 1 (Nat.le_of_ble_eq_true rfl)) rfl rfl (Nat.le_of_ble_eq_true rfl) dX4_init_17 (fun H locs hP hD hS => ?_)
  have hP : va_P (dC, dI) vwCl [(a_t, .inr (4, [.ref q_1, .ref q_2, .null, .int (0 : Int32)])), (q_1, .inl (cy 0, 16, .inl (fun _ => 0))), (q_2, .inl (cy 0, 16, .inl (fun _ => 0)))] H := hP
  have hD : va_D A [(a_t, .inr (4, [.ref q_1, .ref q_2, .null, .int (0 : Int32)])), (q_1, .inl (cy 0, 16, .inl (fun _ => 0))), (q_2, .inl (cy 0, 16, .inl (fun _ => 0)))] := hD
  refine lv_aload_n hx hb dX4_init_20 rfl (lv_at hl 0 rfl) ?_
  refine lv_bipush (v := 16) hx hb dX4_init_21 (by decide) ?_
  refine va_newa (D := (dC, dI)) (atype := .long) (ty := .long) (N' := 16) (a0 := (16, .inr (.inl (fun _ => 0)))) hx hb (hts _ kX4_init_6) rfl hK hP hD hS hA (fun _ => rfl) (by decide) (by decide) (by decide) (Nat.le_of_ble_eq_true rfl) (Nat.le_of_ble_eq_true rfl) dX4_init_23 (fun q_3 cA H hK9 hP hD hS => ?_)
  obtain rfl : cA = cy 1 := x_same hK hK9 1 rfl
  have hP : va_P (dC, dI) vwCl [(a_t, .inr (4, [.ref q_1, .ref q_2, .null, .int (0 : Int32)])), (q_1, .inl (cy 0, 16, .inl (fun _ => 0))), (q_2, .inl (cy 0, 16, .inl (fun _ => 0))), (q_3, .inl (cy 1, 16, .inr (.inl (fun _ => 0))))] H := hP
  have hD : va_D A [(a_t, .inr (4, [.ref q_1, .ref q_2, .null, .int (0 : Int32)])), (q_1, .inl (cy 0, 16, .inl (fun _ => 0))), (q_2, .inl (cy 0, 16, .inl (fun _ => 0))), (q_3, .inl (cy 1, 16, .inr (.inl (fun _ => 0))))] := hD
  refine va_put (D := (dC, dI)) (ci := 4) (v := .ref q_3) (C := RX4) (T := TX4) (N := 4) hx hb hts iX4_init_X4 tyX4 tyX4_ok nmX4 hown hK hP hD hS 0 rfl rfl 2 (Nat.le_of_ble_eq_true rfl) (hts _ kX4_init_7) (fun _ h9 => h9) rfl (tyX4_ok 2 (Nat.le_of_ble_eq_true rfl)) rfl rfl (Nat.le_of_ble_eq_true rfl) dX4_init_25 (fun H locs hP hD hS => ?_)
  have hP : va_P (dC, dI) vwCl [(a_t, .inr (4, [.ref q_1, .ref q_2, .ref q_3, .int (0 : Int32)])), (q_1, .inl (cy 0, 16, .inl (fun _ => 0))), (q_2, .inl (cy 0, 16, .inl (fun _ => 0))), (q_3, .inl (cy 1, 16, .inr (.inl (fun _ => 0))))] H := hP
  have hD : va_D A [(a_t, .inr (4, [.ref q_1, .ref q_2, .ref q_3, .int (0 : Int32)])), (q_1, .inl (cy 0, 16, .inl (fun _ => 0))), (q_2, .inl (cy 0, 16, .inl (fun _ => 0))), (q_3, .inl (cy 1, 16, .inr (.inl (fun _ => 0))))] := hD
  refine W.widen (k := 3) (n := 48) (Nat.le_of_ble_eq_true rfl) (Nat.le_of_ble_eq_true rfl) ?_
  rw [← hQ]
  exact W.vret hx hb hr (fun t ht hW => ⟨⟨(), rfl, trivial, x_end (w1 := [(a_t, .inr (4, [.ref q_1, .ref q_2, .ref q_3, .int (0 : Int32)])), (q_1, .inl (cy 0, 16, .inl (fun _ => 0))), (q_2, .inl (cy 0, 16, .inl (fun _ => 0))), (q_3, .inl (cy 1, 16, .inr (.inl (fun _ => 0))))]) hP hD hK [0, 1, 2, 3] rfl (by decide +kernel) ⟨q_1, q_2, q_3, rfl⟩ ht hW⟩, hS.F ht⟩) hS.2.2 dX4_init_28

theorem kX2_init_0 : Cond.methodLink RX2 3 objectInit ∈ wsX2_init := (List.mem_cons_of_mem _ (List.mem_append_left _ (List.mem_of_getElem? (i := 0) rfl)))
theorem kX2_init_1 : Cond.instanceMethod objectInit ∈ wsX2_init := (List.mem_cons_of_mem _ (List.mem_append_left _ (List.mem_of_getElem? (i := 1) rfl)))
theorem kX2_init_2 : Cond.code objectInit ⟨#[0xb1]⟩ 1 none ∈ wsX2_init := (List.mem_cons_of_mem _ (List.mem_append_left _ (List.mem_of_getElem? (i := 2) rfl)))
theorem kX2_init_3 : Cond.arrayClass .int ∈ wsX2_init := (List.mem_cons_of_mem _ (List.mem_append_left _ (List.mem_of_getElem? (i := 3) rfl)))
theorem kX2_init_4 : Cond.fieldLink RX2 9 "KnapsackCore$Ranked" "itemAt" "[I" ∈ wsX2_init := (List.mem_cons_of_mem _ (List.mem_append_left _ (List.mem_of_getElem? (i := 4) rfl)))
theorem kX2_init_5 : Cond.fieldLink RX2 15 "KnapsackCore$Ranked" "placeOf" "[I" ∈ wsX2_init := (List.mem_cons_of_mem _ (List.mem_append_left _ (List.mem_of_getElem? (i := 5) rfl)))
theorem kX2_init_6 : Cond.fieldLink RX2 18 "KnapsackCore$Ranked" "weights" "[I" ∈ wsX2_init := (List.mem_cons_of_mem _ (List.mem_append_left _ (List.mem_of_getElem? (i := 6) rfl)))
theorem kX2_init_7 : Cond.fieldLink RX2 21 "KnapsackCore$Ranked" "profits" "[I" ∈ wsX2_init := (List.mem_cons_of_mem _ (List.mem_append_left _ (List.mem_of_getElem? (i := 7) rfl)))
theorem iX2_init_X2 : ∀ w ∈ u_ws RX2 TX2 9, w ∈ wsX2_init := fun w h => (List.mem_cons_of_mem _ (List.mem_append_right _ h))
set_option maxHeartbeats 4000000 in
set_option maxRecDepth 100000 in
/-- new KnapsackCore$Ranked -/
theorem mtX2_init (l : Launch) (ad : (Nat → Nat) × (Nat → Nat)) (dC : Nat → ClassId) (dI : Nat → Nat → Nat) (cy : Nat → ClassId) (a_t : Nat) (sz : Nat) : xMv l yX2_init wsX2_init ({ frames := 1, cells := 4, slots := 240, locals := 30 } : Room) ad (dC, dI) vwCl (xT cy) [.ref a_t] [(a_t, .inr (2, [.null, .null, .null, .null, .int (0 : Int32), .int (0 : Int32), .int (0 : Int32), .int (0 : Int32), .int (0 : Int32)]))] sz (fun (_ : Unit) => True) (fun (_ : Unit) w => ∃ (q_1 : Nat) (q_2 : Nat) (q_3 : Nat) (q_4 : Nat), w = [(a_t, .inr (2, [.ref q_1, .ref q_2, .ref q_3, .ref q_4, .int (0 : Int32), .int (0 : Int32), .int (0 : Int32), .int (0 : Int32), .int (0 : Int32)])), (q_1, .inl (cy 0, 60, .inl (fun _ => 0))), (q_2, .inl (cy 0, 60, .inl (fun _ => 0))), (q_3, .inl (cy 0, 60, .inl (fun _ => 0))), (q_4, .inl (cy 0, 60, .inl (fun _ => 0)))]) 4 240 := by
  unfold xMv
  refine Met.ofW (cc := cX2_init) (maxL := 1) (ret := none) (by decide) rfl ?_
  intro p e s m args below meth c s₁ B hml hv
  obtain ⟨rfl, hsz, hP, hK, hD0, hE⟩ := hv
  have hx := B.exec
  have hb := B.bytes
  have hr := B.returns
  have hts := atoms_spec (ws := wsX2_init) B.pre
  have hown : s.vm.findClass RX2 = some m.cls := findClass_of_methodNamed B.named
  have hlocks := B.notSynchronized
  have hin : meth.name = "<init>" := (name_of_methodNamed B.named B.method).1
  subst hsz
  have hD := hD0.self (sz := s.heap.size)
  generalize hAe : va_A [(a_t, .inr (2, [.null, .null, .null, .null, .int (0 : Int32), .int (0 : Int32), .int (0 : Int32), .int (0 : Int32), .int (0 : Int32)]))] s.heap.size = A at hD hE ⊢
  have hA : ∀ q : Nat, s.heap.size ≤ q → A q := fun q h => by rw [← hAe]; exact Or.inr h
  have hS : va_S A s.heap s.heap [] := va_S.rf
  have hl := lv_entry ([.ref a_t]) (n := 1) (Nat.le_of_ble_eq_true rfl)
  rw [lg_entry_eq]
  generalize (lg_sl ([.ref a_t]) ++ List.replicate (1 - (lg_sl ([.ref a_t])).length) Slot.unset).toArray = ls at hl ⊢
  have hl : lv_has ls 1 [(0, .ref a_t)] := hl
  generalize hQ : MQ below _ _ s _ _ _ = Q
  generalize ([.ref a_t] : List Value).toArray = args at hts hQ ⊢
  clear B hD0 hAe
  refine lv_aload_n hx hb dX2_init_0 rfl (lv_at hl 0 rfl) ?_
  refine W.objInit hx hb hown (hts _ kX2_init_0) (hts _ kX2_init_1) (hts _ kX2_init_2) rfl (by rw [hml]; exact hl.1) rfl dX2_init_1 (Nat.le_of_ble_eq_true rfl) (Nat.le_of_ble_eq_true rfl) ?_
  refine W.eq (g2 := F0 m 4 ls []) rfl ?_
  refine lv_aload_n hx hb dX2_init_4 rfl (lv_at hl 0 rfl) ?_
  refine lv_bipush (v := 60) hx hb dX2_init_5 (by decide) ?_
  refine va_newa (D := (dC, dI)) (atype := .int) (ty := .int) (N' := 60) (a0 := (60, .inl (fun _ => 0))) hx hb (hts _ kX2_init_3) rfl hK hP hD hS hA (fun _ => rfl) (by decide) (by decide) (by decide) (Nat.le_of_ble_eq_true rfl) (Nat.le_of_ble_eq_true rfl) dX2_init_7 (fun q_1 cA H hK9 hP hD hS => ?_)
  obtain rfl : cA = cy 0 := x_same hK hK9 0 rfl
  have hP : va_P (dC, dI) vwCl [(a_t, .inr (2, [.null, .null, .null, .null, .int (0 : Int32), .int (0 : Int32), .int (0 : Int32), .int (0 : Int32), .int (0 : Int32)])), (q_1, .inl (cy 0, 60, .inl (fun _ => 0)))] H := hP
  have hD : va_D A [(a_t, .inr (2, [.null, .null, .null, .null, .int (0 : Int32), .int (0 : Int32), .int (0 : Int32), .int (0 : Int32), .int (0 : Int32)])), (q_1, .inl (cy 0, 60, .inl (fun _ => 0)))] := hD
  refine va_putF (D := (dC, dI)) (ci := 2) (v := .ref q_1) (C := RX2) (T := TX2) (N := 9) hx hb hts iX2_init_X2 tyX2 tyX2_ok nmX2 hown hK hP hD hS 0 rfl rfl 0 (Nat.le_of_ble_eq_true rfl) (hts _ kX2_init_4) (fun _ h9 => h9) rfl hin rfl (tyX2_ok 0 (Nat.le_of_ble_eq_true rfl)) rfl rfl (Nat.le_of_ble_eq_true rfl) dX2_init_9 (fun H locs hP hD hS => ?_)
  have hP : va_P (dC, dI) vwCl [(a_t, .inr (2, [.ref q_1, .null, .null, .null, .int (0 : Int32), .int (0 : Int32), .int (0 : Int32), .int (0 : Int32), .int (0 : Int32)])), (q_1, .inl (cy 0, 60, .inl (fun _ => 0)))] H := hP
  have hD : va_D A [(a_t, .inr (2, [.ref q_1, .null, .null, .null, .int (0 : Int32), .int (0 : Int32), .int (0 : Int32), .int (0 : Int32), .int (0 : Int32)])), (q_1, .inl (cy 0, 60, .inl (fun _ => 0)))] := hD
  refine lv_aload_n hx hb dX2_init_12 rfl (lv_at hl 0 rfl) ?_
  refine lv_bipush (v := 60) hx hb dX2_init_13 (by decide) ?_
  refine va_newa (D := (dC, dI)) (atype := .int) (ty := .int) (N' := 60) (a0 := (60, .inl (fun _ => 0))) hx hb (hts _ kX2_init_3) rfl hK hP hD hS hA (fun _ => rfl) (by decide) (by decide) (by decide) (Nat.le_of_ble_eq_true rfl) (Nat.le_of_ble_eq_true rfl) dX2_init_15 (fun q_2 cA H hK9 hP hD hS => ?_)
  obtain rfl : cA = cy 0 := x_same hK hK9 0 rfl
  have hP : va_P (dC, dI) vwCl [(a_t, .inr (2, [.ref q_1, .null, .null, .null, .int (0 : Int32), .int (0 : Int32), .int (0 : Int32), .int (0 : Int32), .int (0 : Int32)])), (q_1, .inl (cy 0, 60, .inl (fun _ => 0))), (q_2, .inl (cy 0, 60, .inl (fun _ => 0)))] H := hP
  have hD : va_D A [(a_t, .inr (2, [.ref q_1, .null, .null, .null, .int (0 : Int32), .int (0 : Int32), .int (0 : Int32), .int (0 : Int32), .int (0 : Int32)])), (q_1, .inl (cy 0, 60, .inl (fun _ => 0))), (q_2, .inl (cy 0, 60, .inl (fun _ => 0)))] := hD
  refine va_putF (D := (dC, dI)) (ci := 2) (v := .ref q_2) (C := RX2) (T := TX2) (N := 9) hx hb hts iX2_init_X2 tyX2 tyX2_ok nmX2 hown hK hP hD hS 0 rfl rfl 1 (Nat.le_of_ble_eq_true rfl) (hts _ kX2_init_5) (fun _ h9 => h9) rfl hin rfl (tyX2_ok 1 (Nat.le_of_ble_eq_true rfl)) rfl rfl (Nat.le_of_ble_eq_true rfl) dX2_init_17 (fun H locs hP hD hS => ?_)
  have hP : va_P (dC, dI) vwCl [(a_t, .inr (2, [.ref q_1, .ref q_2, .null, .null, .int (0 : Int32), .int (0 : Int32), .int (0 : Int32), .int (0 : Int32), .int (0 : Int32)])), (q_1, .inl (cy 0, 60, .inl (fun _ => 0))), (q_2, .inl (cy 0, 60, .inl (fun _ => 0)))] H := hP
  have hD : va_D A [(a_t, .inr (2, [.ref q_1, .ref q_2, .null, .null, .int (0 : Int32), .int (0 : Int32), .int (0 : Int32), .int (0 : Int32), .int (0 : Int32)])), (q_1, .inl (cy 0, 60, .inl (fun _ => 0))), (q_2, .inl (cy 0, 60, .inl (fun _ => 0)))] := hD
  refine lv_aload_n hx hb dX2_init_20 rfl (lv_at hl 0 rfl) ?_
  refine lv_bipush (v := 60) hx hb dX2_init_21 (by decide) ?_
  refine va_newa (D := (dC, dI)) (atype := .int) (ty := .int) (N' := 60) (a0 := (60, .inl (fun _ => 0))) hx hb (hts _ kX2_init_3) rfl hK hP hD hS hA (fun _ => rfl) (by decide) (by decide) (by decide) (Nat.le_of_ble_eq_true rfl) (Nat.le_of_ble_eq_true rfl) dX2_init_23 (fun q_3 cA H hK9 hP hD hS => ?_)
  obtain rfl : cA = cy 0 := x_same hK hK9 0 rfl
  have hP : va_P (dC, dI) vwCl [(a_t, .inr (2, [.ref q_1, .ref q_2, .null, .null, .int (0 : Int32), .int (0 : Int32), .int (0 : Int32), .int (0 : Int32), .int (0 : Int32)])), (q_1, .inl (cy 0, 60, .inl (fun _ => 0))), (q_2, .inl (cy 0, 60, .inl (fun _ => 0))), (q_3, .inl (cy 0, 60, .inl (fun _ => 0)))] H := hP
  have hD : va_D A [(a_t, .inr (2, [.ref q_1, .ref q_2, .null, .null, .int (0 : Int32), .int (0 : Int32), .int (0 : Int32), .int (0 : Int32), .int (0 : Int32)])), (q_1, .inl (cy 0, 60, .inl (fun _ => 0))), (q_2, .inl (cy 0, 60, .inl (fun _ => 0))), (q_3, .inl (cy 0, 60, .inl (fun _ => 0)))] := hD
  refine va_putF (D := (dC, dI)) (ci := 2) (v := .ref q_3) (C := RX2) (T := TX2) (N := 9) hx hb hts iX2_init_X2 tyX2 tyX2_ok nmX2 hown hK hP hD hS 0 rfl rfl 2 (Nat.le_of_ble_eq_true rfl) (hts _ kX2_init_6) (fun _ h9 => h9) rfl hin rfl (tyX2_ok 2 (Nat.le_of_ble_eq_true rfl)) rfl rfl (Nat.le_of_ble_eq_true rfl) dX2_init_25 (fun H locs hP hD hS => ?_)
  have hP : va_P (dC, dI) vwCl [(a_t, .inr (2, [.ref q_1, .ref q_2, .ref q_3, .null, .int (0 : Int32), .int (0 : Int32), .int (0 : Int32), .int (0 : Int32), .int (0 : Int32)])), (q_1, .inl (cy 0, 60, .inl (fun _ => 0))), (q_2, .inl (cy 0, 60, .inl (fun _ => 0))), (q_3, .inl (cy 0, 60, .inl (fun _ => 0)))] H := hP
  have hD : va_D A [(a_t, .inr (2, [.ref q_1, .ref q_2, .ref q_3, .null, .int (0 : Int32), .int (0 : Int32), .int (0 : Int32), .int (0 : Int32), .int (0 : Int32)])), (q_1, .inl (cy 0, 60, .inl (fun _ => 0))), (q_2, .inl (cy 0, 60, .inl (fun _ => 0))), (q_3, .inl (cy 0, 60, .inl (fun _ => 0)))] := hD
  refine lv_aload_n hx hb dX2_init_28 rfl (lv_at hl 0 rfl) ?_
  refine lv_bipush (v := 60) hx hb dX2_init_29 (by decide) ?_
  refine va_newa (D := (dC, dI)) (atype := .int) (ty := .int) (N' := 60) (a0 := (60, .inl (fun _ => 0))) hx hb (hts _ kX2_init_3) rfl hK hP hD hS hA (fun _ => rfl) (by decide) (by decide) (by decide) (Nat.le_of_ble_eq_true rfl) (Nat.le_of_ble_eq_true rfl) dX2_init_31 (fun q_4 cA H hK9 hP hD hS => ?_)
  obtain rfl : cA = cy 0 := x_same hK hK9 0 rfl
  have hP : va_P (dC, dI) vwCl [(a_t, .inr (2, [.ref q_1, .ref q_2, .ref q_3, .null, .int (0 : Int32), .int (0 : Int32), .int (0 : Int32), .int (0 : Int32), .int (0 : Int32)])), (q_1, .inl (cy 0, 60, .inl (fun _ => 0))), (q_2, .inl (cy 0, 60, .inl (fun _ => 0))), (q_3, .inl (cy 0, 60, .inl (fun _ => 0))), (q_4, .inl (cy 0, 60, .inl (fun _ => 0)))] H := hP
  have hD : va_D A [(a_t, .inr (2, [.ref q_1, .ref q_2, .ref q_3, .null, .int (0 : Int32), .int (0 : Int32), .int (0 : Int32), .int (0 : Int32), .int (0 : Int32)])), (q_1, .inl (cy 0, 60, .inl (fun _ => 0))), (q_2, .inl (cy 0, 60, .inl (fun _ => 0))), (q_3, .inl (cy 0, 60, .inl (fun _ => 0))), (q_4, .inl (cy 0, 60, .inl (fun _ => 0)))] := hD
  refine va_putF (D := (dC, dI)) (ci := 2) (v := .ref q_4) (C := RX2) (T := TX2) (N := 9) hx hb hts iX2_init_X2 tyX2 tyX2_ok nmX2 hown hK hP hD hS 0 rfl rfl 3 (Nat.le_of_ble_eq_true rfl) (hts _ kX2_init_7) (fun _ h9 => h9) rfl hin rfl (tyX2_ok 3 (Nat.le_of_ble_eq_true rfl)) rfl rfl (Nat.le_of_ble_eq_true rfl) dX2_init_33 (fun H locs hP hD hS => ?_)
  have hP : va_P (dC, dI) vwCl [(a_t, .inr (2, [.ref q_1, .ref q_2, .ref q_3, .ref q_4, .int (0 : Int32), .int (0 : Int32), .int (0 : Int32), .int (0 : Int32), .int (0 : Int32)])), (q_1, .inl (cy 0, 60, .inl (fun _ => 0))), (q_2, .inl (cy 0, 60, .inl (fun _ => 0))), (q_3, .inl (cy 0, 60, .inl (fun _ => 0))), (q_4, .inl (cy 0, 60, .inl (fun _ => 0)))] H := hP
  have hD : va_D A [(a_t, .inr (2, [.ref q_1, .ref q_2, .ref q_3, .ref q_4, .int (0 : Int32), .int (0 : Int32), .int (0 : Int32), .int (0 : Int32), .int (0 : Int32)])), (q_1, .inl (cy 0, 60, .inl (fun _ => 0))), (q_2, .inl (cy 0, 60, .inl (fun _ => 0))), (q_3, .inl (cy 0, 60, .inl (fun _ => 0))), (q_4, .inl (cy 0, 60, .inl (fun _ => 0)))] := hD
  refine W.widen (k := 4) (n := 240) (Nat.le_of_ble_eq_true rfl) (Nat.le_of_ble_eq_true rfl) ?_
  rw [← hQ]
  exact W.vret hx hb hr (fun t ht hW => ⟨⟨(), rfl, trivial, x_end (w1 := [(a_t, .inr (2, [.ref q_1, .ref q_2, .ref q_3, .ref q_4, .int (0 : Int32), .int (0 : Int32), .int (0 : Int32), .int (0 : Int32), .int (0 : Int32)])), (q_1, .inl (cy 0, 60, .inl (fun _ => 0))), (q_2, .inl (cy 0, 60, .inl (fun _ => 0))), (q_3, .inl (cy 0, 60, .inl (fun _ => 0))), (q_4, .inl (cy 0, 60, .inl (fun _ => 0)))]) hP hD hK [0, 1, 2, 3, 4] rfl (by decide +kernel) ⟨q_1, q_2, q_3, q_4, rfl⟩ ht hW⟩, hS.F ht⟩) hS.2.2 dX2_init_36

theorem dfX2 : ∀ j, j < 9 → defaultValue (tyX2 j) = vp_V [.null, .null, .null, .null, .int (0 : Int32), .int (0 : Int32), .int (0 : Int32), .int (0 : Int32), .int (0 : Int32)] j := by
  intro j hj
  rcases (show j = 0 ∨ j = 1 ∨ j = 2 ∨ j = 3 ∨ j = 4 ∨ j = 5 ∨ j = 6 ∨ j = 7 ∨ j = 8 by omega) with rfl | rfl | rfl | rfl | rfl | rfl | rfl | rfl | rfl <;> rfl
theorem dfX4 : ∀ j, j < 4 → defaultValue (tyX4 j) = vp_V [.null, .null, .null, .int (0 : Int32)] j := by
  intro j hj
  rcases (show j = 0 ∨ j = 1 ∨ j = 2 ∨ j = 3 by omega) with rfl | rfl | rfl | rfl <;> rfl
theorem qX2_init : yX2_init.cls = RX2 ∧ yX2_init.cls ≠ "java/lang/invoke/MethodHandle" ∧ yX2_init.cls ≠ "java/lang/invoke/VarHandle" ∧ (parseMethodDescriptor yX2_init.desc).map (fun d => d.parameters.length) = some 0 := by decide +kernel
theorem qX4_init : yX4_init.cls = RX4 ∧ yX4_init.cls ≠ "java/lang/invoke/MethodHandle" ∧ yX4_init.cls ≠ "java/lang/invoke/VarHandle" ∧ (parseMethodDescriptor yX4_init.desc).map (fun d => d.parameters.length) = some 0 := by decide +kernel
theorem kX0_init_0 : Cond.methodLink RX0 3 objectInit ∈ wsX0_init := (List.mem_cons_of_mem _ (List.mem_append_left _ (List.mem_append_left _ (List.mem_append_left _ (List.mem_append_left _ (List.mem_of_getElem? (i := 0) rfl))))))
theorem kX0_init_1 : Cond.instanceMethod objectInit ∈ wsX0_init := (List.mem_cons_of_mem _ (List.mem_append_left _ (List.mem_append_left _ (List.mem_append_left _ (List.mem_append_left _ (List.mem_of_getElem? (i := 1) rfl))))))
theorem kX0_init_2 : Cond.code objectInit ⟨#[0xb1]⟩ 1 none ∈ wsX0_init := (List.mem_cons_of_mem _ (List.mem_append_left _ (List.mem_append_left _ (List.mem_append_left _ (List.mem_append_left _ (List.mem_of_getElem? (i := 2) rfl))))))
theorem kX0_init_3 : Cond.classLink RX0 9 RX2 ∈ wsX0_init := (List.mem_cons_of_mem _ (List.mem_append_left _ (List.mem_append_left _ (List.mem_append_left _ (List.mem_append_left _ (List.mem_of_getElem? (i := 3) rfl))))))
theorem kX0_init_4 : Cond.instantiable RX2 9 ∈ wsX0_init := (List.mem_cons_of_mem _ (List.mem_append_left _ (List.mem_append_left _ (List.mem_append_left _ (List.mem_append_left _ (List.mem_of_getElem? (i := 4) rfl))))))
theorem kX0_init_5 : Cond.initialized RX2 ∈ wsX0_init := (List.mem_cons_of_mem _ (List.mem_append_left _ (List.mem_append_left _ (List.mem_append_left _ (List.mem_append_left _ (List.mem_of_getElem? (i := 5) rfl))))))
theorem kX0_init_6 : Cond.instanceMethod yX2_init ∈ wsX0_init := (List.mem_cons_of_mem _ (List.mem_append_left _ (List.mem_append_left _ (List.mem_append_left _ (List.mem_append_left _ (List.mem_of_getElem? (i := 12) rfl))))))
theorem kX0_init_7 : Cond.fieldLink RX0 12 "KnapsackCore$Core" "ranked" "LKnapsackCore$Ranked;" ∈ wsX0_init := (List.mem_cons_of_mem _ (List.mem_append_left _ (List.mem_append_left _ (List.mem_append_left _ (List.mem_append_left _ (List.mem_of_getElem? (i := 6) rfl))))))
theorem kX0_init_8 : Cond.classLink RX0 18 RX4 ∈ wsX0_init := (List.mem_cons_of_mem _ (List.mem_append_left _ (List.mem_append_left _ (List.mem_append_left _ (List.mem_append_left _ (List.mem_of_getElem? (i := 7) rfl))))))
theorem kX0_init_9 : Cond.instantiable RX4 4 ∈ wsX0_init := (List.mem_cons_of_mem _ (List.mem_append_left _ (List.mem_append_left _ (List.mem_append_left _ (List.mem_append_left _ (List.mem_of_getElem? (i := 8) rfl))))))
theorem kX0_init_10 : Cond.initialized RX4 ∈ wsX0_init := (List.mem_cons_of_mem _ (List.mem_append_left _ (List.mem_append_left _ (List.mem_append_left _ (List.mem_append_left _ (List.mem_of_getElem? (i := 9) rfl))))))
theorem kX0_init_11 : Cond.instanceMethod yX4_init ∈ wsX0_init := (List.mem_cons_of_mem _ (List.mem_append_left _ (List.mem_append_left _ (List.mem_append_left _ (List.mem_append_left _ (List.mem_of_getElem? (i := 20) rfl))))))
theorem kX0_init_12 : Cond.fieldLink RX0 21 "KnapsackCore$Core" "sets" "LKnapsackCore$Sets;" ∈ wsX0_init := (List.mem_cons_of_mem _ (List.mem_append_left _ (List.mem_append_left _ (List.mem_append_left _ (List.mem_append_left _ (List.mem_of_getElem? (i := 10) rfl))))))
theorem kX0_init_13 : Cond.fieldLink RX0 25 "KnapsackCore$Core" "spare" "LKnapsackCore$Sets;" ∈ wsX0_init := (List.mem_cons_of_mem _ (List.mem_append_left _ (List.mem_append_left _ (List.mem_append_left _ (List.mem_append_left _ (List.mem_of_getElem? (i := 11) rfl))))))
theorem iX0_init_X2 : ∀ w ∈ u_ws RX2 TX2 9, w ∈ wsX0_init := fun w h => (List.mem_cons_of_mem _ (List.mem_append_left _ (List.mem_append_left _ (List.mem_append_right _ h))))
theorem iX0_init_X0 : ∀ w ∈ u_ws RX0 TX0 10, w ∈ wsX0_init := fun w h => (List.mem_cons_of_mem _ (List.mem_append_left _ (List.mem_append_right _ h)))
theorem iX0_init_X4 : ∀ w ∈ u_ws RX4 TX4 4, w ∈ wsX0_init := fun w h => (List.mem_cons_of_mem _ (List.mem_append_right _ h))
set_option maxHeartbeats 4000000 in
set_option maxRecDepth 100000 in
/-- new KnapsackCore$Core -/
theorem mtX0_init (l : Launch) (ad : (Nat → Nat) × (Nat → Nat)) (dC : Nat → ClassId) (dI : Nat → Nat → Nat) (cy : Nat → ClassId) (a_t : Nat) (sz : Nat) : xMv l yX0_init wsX0_init ({ frames := 2, cells := 13, slots := 353, locals := 50 } : Room) ad (dC, dI) vwCl (xT cy) [.ref a_t] [(a_t, .inr (0, [.null, .null, .null, .int (0 : Int32), .int (0 : Int32), .int (0 : Int32), .int (0 : Int32), .int (0 : Int32), .int (0 : Int32), .long (0 : Int64)]))] sz (fun (_ : Unit) => True) (fun (_ : Unit) w => ∃ (q_1 : Nat) (q_2 : Nat) (q_3 : Nat) (q_4 : Nat) (q_5 : Nat) (q_6 : Nat) (q_7 : Nat) (q_8 : Nat) (q_9 : Nat) (q_10 : Nat) (q_11 : Nat) (q_12 : Nat) (q_13 : Nat), w = [(a_t, .inr (0, [.ref q_1, .ref q_6, .ref q_10, .int (0 : Int32), .int (0 : Int32), .int (0 : Int32), .int (0 : Int32), .int (0 : Int32), .int (0 : Int32), .long (0 : Int64)])), (q_1, .inr (2, [.ref q_2, .ref q_3, .ref q_4, .ref q_5, .int (0 : Int32), .int (0 : Int32), .int (0 : Int32), .int (0 : Int32), .int (0 : Int32)])), (q_2, .inl (cy 0, 60, .inl (fun _ => 0))), (q_3, .inl (cy 0, 60, .inl (fun _ => 0))), (q_4, .inl (cy 0, 60, .inl (fun _ => 0))), (q_5, .inl (cy 0, 60, .inl (fun _ => 0))), (q_6, .inr (4, [.ref q_7, .ref q_8, .ref q_9, .int (0 : Int32)])), (q_7, .inl (cy 0, 16, .inl (fun _ => 0))), (q_8, .inl (cy 0, 16, .inl (fun _ => 0))), (q_9, .inl (cy 1, 16, .inr (.inl (fun _ => 0)))), (q_10, .inr (4, [.ref q_11, .ref q_12, .ref q_13, .int (0 : Int32)])), (q_11, .inl (cy 0, 16, .inl (fun _ => 0))), (q_12, .inl (cy 0, 16, .inl (fun _ => 0))), (q_13, .inl (cy 1, 16, .inr (.inl (fun _ => 0))))]) 13 353 := by
  unfold xMv
  refine Met.ofW (cc := cX0_init) (maxL := 1) (ret := none) (by decide) rfl ?_
  intro p e s m args below meth c s₁ B hml hv
  obtain ⟨rfl, hsz, hP, hK, hD0, hE⟩ := hv
  have hx := B.exec
  have hb := B.bytes
  have hr := B.returns
  have hts := atoms_spec (ws := wsX0_init) B.pre
  have hown : s.vm.findClass RX0 = some m.cls := findClass_of_methodNamed B.named
  have hlocks := B.notSynchronized
  have hin : meth.name = "<init>" := (name_of_methodNamed B.named B.method).1
  subst hsz
  have hD := hD0.self (sz := s.heap.size)
  generalize hAe : va_A [(a_t, .inr (0, [.null, .null, .null, .int (0 : Int32), .int (0 : Int32), .int (0 : Int32), .int (0 : Int32), .int (0 : Int32), .int (0 : Int32), .long (0 : Int64)]))] s.heap.size = A at hD hE ⊢
  have hA : ∀ q : Nat, s.heap.size ≤ q → A q := fun q h => by rw [← hAe]; exact Or.inr h
  have hS : va_S A s.heap s.heap [] := va_S.rf
  have hl := lv_entry ([.ref a_t]) (n := 1) (Nat.le_of_ble_eq_true rfl)
  rw [lg_entry_eq]
  generalize (lg_sl ([.ref a_t]) ++ List.replicate (1 - (lg_sl ([.ref a_t])).length) Slot.unset).toArray = ls at hl ⊢
  have hl : lv_has ls 1 [(0, .ref a_t)] := hl
  generalize hQ : MQ below _ _ s _ _ _ = Q
  generalize ([.ref a_t] : List Value).toArray = args at hts hQ ⊢
  clear B hD0 hAe
  refine lv_aload_n hx hb dX0_init_0 rfl (lv_at hl 0 rfl) ?_
  refine W.objInit hx hb hown (hts _ kX0_init_0) (hts _ kX0_init_1) (hts _ kX0_init_2) rfl (by rw [hml]; exact hl.1) rfl dX0_init_1 (Nat.le_of_ble_eq_true rfl) (Nat.le_of_ble_eq_true rfl) ?_
  refine W.eq (g2 := F0 m 4 ls []) rfl ?_
  refine lv_aload_n hx hb dX0_init_4 rfl (lv_at hl 0 rfl) ?_
  refine va_new (D := (dC, dI)) (ci := 2) (fs := [.null, .null, .null, .null, .int (0 : Int32), .int (0 : Int32), .int (0 : Int32), .int (0 : Int32), .int (0 : Int32)]) (C := RX2) (T := TX2) (N := 9) hx hb hts iX0_init_X2 tyX2 tyX2_ok hown (hts _ kX0_init_3) (hts _ kX0_init_4) (hts _ kX0_init_5) hK hP hD hS hA rfl dfX2 (Nat.le_of_ble_eq_true rfl) (Nat.le_of_ble_eq_true rfl) dX0_init_5 (fun q_1 H hP hD hS => ?_)
  have hP : va_P (dC, dI) vwCl [(a_t, .inr (0, [.null, .null, .null, .int (0 : Int32), .int (0 : Int32), .int (0 : Int32), .int (0 : Int32), .int (0 : Int32), .int (0 : Int32), .long (0 : Int64)])), (q_1, .inr (2, [.null, .null, .null, .null, .int (0 : Int32), .int (0 : Int32), .int (0 : Int32), .int (0 : Int32), .int (0 : Int32)]))] H := hP
  have hD : va_D A [(a_t, .inr (0, [.null, .null, .null, .int (0 : Int32), .int (0 : Int32), .int (0 : Int32), .int (0 : Int32), .int (0 : Int32), .int (0 : Int32), .long (0 : Int64)])), (q_1, .inr (2, [.null, .null, .null, .null, .int (0 : Int32), .int (0 : Int32), .int (0 : Int32), .int (0 : Int32), .int (0 : Int32)]))] := hD
  refine lv_dup hx hb dX0_init_8 rfl ?_
  refine xJv (wr := [(a_t, .inr (0, [.null, .null, .null, .int (0 : Int32), .int (0 : Int32), .int (0 : Int32), .int (0 : Int32), .int (0 : Int32), .int (0 : Int32), .long (0 : Int64)]))]) (As := []) (rest := [.ref q_1, .ref a_t]) ⟨hx, hb, hml, hown, hts⟩ (mtX2_init l ad dC dI cy q_1 _) ⟨va_cnB 0 hts gX0_init_X2_init_n11 rfl rfl rfl (hE.1 _ (List.mem_of_getElem? (i := 1) rfl)) (hts _ kX0_init_5) qX2_init.2 ⟨Nat.le_of_ble_eq_true rfl, Nat.le_of_ble_eq_true rfl⟩, rfl, hts _ kX0_init_6⟩ hE hK hP hD hS hA [1] [0] rfl rfl (by decide) (by decide) (by decide) rfl hl.1 rfl (Nat.le_of_ble_eq_true rfl) dX0_init_9 ⟨Nat.le_of_ble_eq_true rfl, Nat.le_of_ble_eq_true rfl⟩ (fun u w1 H locs h9 hF hP hD hS => ?_)
  obtain ⟨q_2, q_3, q_4, q_5, hF⟩ := hF
  replace hF : w1 = [(q_1, .inr (2, [.ref q_2, .ref q_3, .ref q_4, .ref q_5, .int (0 : Int32), .int (0 : Int32), .int (0 : Int32), .int (0 : Int32), .int (0 : Int32)])), (q_2, .inl (cy 0, 60, .inl (fun _ => 0))), (q_3, .inl (cy 0, 60, .inl (fun _ => 0))), (q_4, .inl (cy 0, 60, .inl (fun _ => 0))), (q_5, .inl (cy 0, 60, .inl (fun _ => 0)))] := hF
  subst hF
  have hP : va_P (dC, dI) vwCl [(a_t, .inr (0, [.null, .null, .null, .int (0 : Int32), .int (0 : Int32), .int (0 : Int32), .int (0 : Int32), .int (0 : Int32), .int (0 : Int32), .long (0 : Int64)])), (q_1, .inr (2, [.ref q_2, .ref q_3, .ref q_4, .ref q_5, .int (0 : Int32), .int (0 : Int32), .int (0 : Int32), .int (0 : Int32), .int (0 : Int32)])), (q_2, .inl (cy 0, 60, .inl (fun _ => 0))), (q_3, .inl (cy 0, 60, .inl (fun _ => 0))), (q_4, .inl (cy 0, 60, .inl (fun _ => 0))), (q_5, .inl (cy 0, 60, .inl (fun _ => 0)))] H := hP
  have hD : va_D A [(a_t, .inr (0, [.null, .null, .null, .int (0 : Int32), .int (0 : Int32), .int (0 : Int32), .int (0 : Int32), .int (0 : Int32), .int (0 : Int32), .long (0 : Int64)])), (q_1, .inr (2, [.ref q_2, .ref q_3, .ref q_4, .ref q_5, .int (0 : Int32), .int (0 : Int32), .int (0 : Int32), .int (0 : Int32), .int (0 : Int32)])), (q_2, .inl (cy 0, 60, .inl (fun _ => 0))), (q_3, .inl (cy 0, 60, .inl (fun _ => 0))), (q_4, .inl (cy 0, 60, .inl (fun _ => 0))), (q_5, .inl (cy 0, 60, .inl (fun _ => 0)))] := hD
  refine va_putF (D := (dC, dI)) (ci := 0) (v := .ref q_1) (C := RX0) (T := TX0) (N := 10) hx hb hts iX0_init_X0 tyX0 tyX0_ok nmX0 hown hK hP hD hS 0 rfl rfl 0 (Nat.le_of_ble_eq_true rfl) (hts _ kX0_init_7) (fun _ h9 => h9) rfl hin rfl (tyX0_ok 0 (Nat.le_of_ble_eq_true rfl)) rfl rfl (Nat.le_of_ble_eq_true rfl) dX0_init_12 (fun H locs hP hD hS => ?_)
  have hP : va_P (dC, dI) vwCl [(a_t, .inr (0, [.ref q_1, .null, .null, .int (0 : Int32), .int (0 : Int32), .int (0 : Int32), .int (0 : Int32), .int (0 : Int32), .int (0 : Int32), .long (0 : Int64)])), (q_1, .inr (2, [.ref q_2, .ref q_3, .ref q_4, .ref q_5, .int (0 : Int32), .int (0 : Int32), .int (0 : Int32), .int (0 : Int32), .int (0 : Int32)])), (q_2, .inl (cy 0, 60, .inl (fun _ => 0))), (q_3, .inl (cy 0, 60, .inl (fun _ => 0))), (q_4, .inl (cy 0, 60, .inl (fun _ => 0))), (q_5, .inl (cy 0, 60, .inl (fun _ => 0)))] H := hP
  have hD : va_D A [(a_t, .inr (0, [.ref q_1, .null, .null, .int (0 : Int32), .int (0 : Int32), .int (0 : Int32), .int (0 : Int32), .int (0 : Int32), .int (0 : Int32), .long (0 : Int64)])), (q_1, .inr (2, [.ref q_2, .ref q_3, .ref q_4, .ref q_5, .int (0 : Int32), .int (0 : Int32), .int (0 : Int32), .int (0 : Int32), .int (0 : Int32)])), (q_2, .inl (cy 0, 60, .inl (fun _ => 0))), (q_3, .inl (cy 0, 60, .inl (fun _ => 0))), (q_4, .inl (cy 0, 60, .inl (fun _ => 0))), (q_5, .inl (cy 0, 60, .inl (fun _ => 0)))] := hD
  refine lv_aload_n hx hb dX0_init_15 rfl (lv_at hl 0 rfl) ?_
  refine va_new (D := (dC, dI)) (ci := 4) (fs := [.null, .null, .null, .int (0 : Int32)]) (C := RX4) (T := TX4) (N := 4) hx hb hts iX0_init_X4 tyX4 tyX4_ok hown (hts _ kX0_init_8) (hts _ kX0_init_9) (hts _ kX0_init_10) hK hP hD hS hA rfl dfX4 (Nat.le_of_ble_eq_true rfl) (Nat.le_of_ble_eq_true rfl) dX0_init_16 (fun q_6 H hP hD hS => ?_)
  have hP : va_P (dC, dI) vwCl [(a_t, .inr (0, [.ref q_1, .null, .null, .int (0 : Int32), .int (0 : Int32), .int (0 : Int32), .int (0 : Int32), .int (0 : Int32), .int (0 : Int32), .long (0 : Int64)])), (q_1, .inr (2, [.ref q_2, .ref q_3, .ref q_4, .ref q_5, .int (0 : Int32), .int (0 : Int32), .int (0 : Int32), .int (0 : Int32), .int (0 : Int32)])), (q_2, .inl (cy 0, 60, .inl (fun _ => 0))), (q_3, .inl (cy 0, 60, .inl (fun _ => 0))), (q_4, .inl (cy 0, 60, .inl (fun _ => 0))), (q_5, .inl (cy 0, 60, .inl (fun _ => 0))), (q_6, .inr (4, [.null, .null, .null, .int (0 : Int32)]))] H := hP
  have hD : va_D A [(a_t, .inr (0, [.ref q_1, .null, .null, .int (0 : Int32), .int (0 : Int32), .int (0 : Int32), .int (0 : Int32), .int (0 : Int32), .int (0 : Int32), .long (0 : Int64)])), (q_1, .inr (2, [.ref q_2, .ref q_3, .ref q_4, .ref q_5, .int (0 : Int32), .int (0 : Int32), .int (0 : Int32), .int (0 : Int32), .int (0 : Int32)])), (q_2, .inl (cy 0, 60, .inl (fun _ => 0))), (q_3, .inl (cy 0, 60, .inl (fun _ => 0))), (q_4, .inl (cy 0, 60, .inl (fun _ => 0))), (q_5, .inl (cy 0, 60, .inl (fun _ => 0))), (q_6, .inr (4, [.null, .null, .null, .int (0 : Int32)]))] := hD
  refine lv_dup hx hb dX0_init_19 rfl ?_
  refine xJv (wr := [(a_t, .inr (0, [.ref q_1, .null, .null, .int (0 : Int32), .int (0 : Int32), .int (0 : Int32), .int (0 : Int32), .int (0 : Int32), .int (0 : Int32), .long (0 : Int64)])), (q_1, .inr (2, [.ref q_2, .ref q_3, .ref q_4, .ref q_5, .int (0 : Int32), .int (0 : Int32), .int (0 : Int32), .int (0 : Int32), .int (0 : Int32)])), (q_2, .inl (cy 0, 60, .inl (fun _ => 0))), (q_3, .inl (cy 0, 60, .inl (fun _ => 0))), (q_4, .inl (cy 0, 60, .inl (fun _ => 0))), (q_5, .inl (cy 0, 60, .inl (fun _ => 0)))]) (As := []) (rest := [.ref q_6, .ref a_t]) ⟨hx, hb, hml, hown, hts⟩ (mtX4_init l ad dC dI cy q_6 _) ⟨va_cnB 0 hts gX0_init_X4_init_n20 rfl rfl rfl (hE.1 _ (List.mem_of_getElem? (i := 2) rfl)) (hts _ kX0_init_10) qX4_init.2 ⟨Nat.le_of_ble_eq_true rfl, Nat.le_of_ble_eq_true rfl⟩, rfl, hts _ kX0_init_11⟩ hE hK hP hD hS hA [6] [0, 1, 2, 3, 4, 5] rfl rfl (by decide) (by decide) (by decide) rfl hl.1 rfl (Nat.le_of_ble_eq_true rfl) dX0_init_20 ⟨Nat.le_of_ble_eq_true rfl, Nat.le_of_ble_eq_true rfl⟩ (fun u w1 H locs h9 hF hP hD hS => ?_)
  obtain ⟨q_7, q_8, q_9, hF⟩ := hF
  replace hF : w1 = [(q_6, .inr (4, [.ref q_7, .ref q_8, .ref q_9, .int (0 : Int32)])), (q_7, .inl (cy 0, 16, .inl (fun _ => 0))), (q_8, .inl (cy 0, 16, .inl (fun _ => 0))), (q_9, .inl (cy 1, 16, .inr (.inl (fun _ => 0))))] := hF
  subst hF
  have hP : va_P (dC, dI) vwCl [(a_t, .inr (0, [.ref q_1, .null, .null, .int (0 : Int32), .int (0 : Int32), .int (0 : Int32), .int (0 : Int32), .int (0 : Int32), .int (0 : Int32), .long (0 : Int64)])), (q_1, .inr (2, [.ref q_2, .ref q_3, .ref q_4, .ref q_5, .int (0 : Int32), .int (0 : Int32), .int (0 : Int32), .int (0 : Int32), .int (0 : Int32)])), (q_2, .inl (cy 0, 60, .inl (fun _ => 0))), (q_3, .inl (cy 0, 60, .inl (fun _ => 0))), (q_4, .inl (cy 0, 60, .inl (fun _ => 0))), (q_5, .inl (cy 0, 60, .inl (fun _ => 0))), (q_6, .inr (4, [.ref q_7, .ref q_8, .ref q_9, .int (0 : Int32)])), (q_7, .inl (cy 0, 16, .inl (fun _ => 0))), (q_8, .inl (cy 0, 16, .inl (fun _ => 0))), (q_9, .inl (cy 1, 16, .inr (.inl (fun _ => 0))))] H := hP
  have hD : va_D A [(a_t, .inr (0, [.ref q_1, .null, .null, .int (0 : Int32), .int (0 : Int32), .int (0 : Int32), .int (0 : Int32), .int (0 : Int32), .int (0 : Int32), .long (0 : Int64)])), (q_1, .inr (2, [.ref q_2, .ref q_3, .ref q_4, .ref q_5, .int (0 : Int32), .int (0 : Int32), .int (0 : Int32), .int (0 : Int32), .int (0 : Int32)])), (q_2, .inl (cy 0, 60, .inl (fun _ => 0))), (q_3, .inl (cy 0, 60, .inl (fun _ => 0))), (q_4, .inl (cy 0, 60, .inl (fun _ => 0))), (q_5, .inl (cy 0, 60, .inl (fun _ => 0))), (q_6, .inr (4, [.ref q_7, .ref q_8, .ref q_9, .int (0 : Int32)])), (q_7, .inl (cy 0, 16, .inl (fun _ => 0))), (q_8, .inl (cy 0, 16, .inl (fun _ => 0))), (q_9, .inl (cy 1, 16, .inr (.inl (fun _ => 0))))] := hD
  refine va_put (D := (dC, dI)) (ci := 0) (v := .ref q_6) (C := RX0) (T := TX0) (N := 10) hx hb hts iX0_init_X0 tyX0 tyX0_ok nmX0 hown hK hP hD hS 0 rfl rfl 1 (Nat.le_of_ble_eq_true rfl) (hts _ kX0_init_12) (fun _ h9 => h9) rfl (tyX0_ok 1 (Nat.le_of_ble_eq_true rfl)) rfl rfl (Nat.le_of_ble_eq_true rfl) dX0_init_23 (fun H locs hP hD hS => ?_)
  have hP : va_P (dC, dI) vwCl [(a_t, .inr (0, [.ref q_1, .ref q_6, .null, .int (0 : Int32), .int (0 : Int32), .int (0 : Int32), .int (0 : Int32), .int (0 : Int32), .int (0 : Int32), .long (0 : Int64)])), (q_1, .inr (2, [.ref q_2, .ref q_3, .ref q_4, .ref q_5, .int (0 : Int32), .int (0 : Int32), .int (0 : Int32), .int (0 : Int32), .int (0 : Int32)])), (q_2, .inl (cy 0, 60, .inl (fun _ => 0))), (q_3, .inl (cy 0, 60, .inl (fun _ => 0))), (q_4, .inl (cy 0, 60, .inl (fun _ => 0))), (q_5, .inl (cy 0, 60, .inl (fun _ => 0))), (q_6, .inr (4, [.ref q_7, .ref q_8, .ref q_9, .int (0 : Int32)])), (q_7, .inl (cy 0, 16, .inl (fun _ => 0))), (q_8, .inl (cy 0, 16, .inl (fun _ => 0))), (q_9, .inl (cy 1, 16, .inr (.inl (fun _ => 0))))] H := hP
  have hD : va_D A [(a_t, .inr (0, [.ref q_1, .ref q_6, .null, .int (0 : Int32), .int (0 : Int32), .int (0 : Int32), .int (0 : Int32), .int (0 : Int32), .int (0 : Int32), .long (0 : Int64)])), (q_1, .inr (2, [.ref q_2, .ref q_3, .ref q_4, .ref q_5, .int (0 : Int32), .int (0 : Int32), .int (0 : Int32), .int (0 : Int32), .int (0 : Int32)])), (q_2, .inl (cy 0, 60, .inl (fun _ => 0))), (q_3, .inl (cy 0, 60, .inl (fun _ => 0))), (q_4, .inl (cy 0, 60, .inl (fun _ => 0))), (q_5, .inl (cy 0, 60, .inl (fun _ => 0))), (q_6, .inr (4, [.ref q_7, .ref q_8, .ref q_9, .int (0 : Int32)])), (q_7, .inl (cy 0, 16, .inl (fun _ => 0))), (q_8, .inl (cy 0, 16, .inl (fun _ => 0))), (q_9, .inl (cy 1, 16, .inr (.inl (fun _ => 0))))] := hD
  refine lv_aload_n hx hb dX0_init_26 rfl (lv_at hl 0 rfl) ?_
  refine va_new (D := (dC, dI)) (ci := 4) (fs := [.null, .null, .null, .int (0 : Int32)]) (C := RX4) (T := TX4) (N := 4) hx hb hts iX0_init_X4 tyX4 tyX4_ok hown (hts _ kX0_init_8) (hts _ kX0_init_9) (hts _ kX0_init_10) hK hP hD hS hA rfl dfX4 (Nat.le_of_ble_eq_true rfl) (Nat.le_of_ble_eq_true rfl) dX0_init_27 (fun q_10 H hP hD hS => ?_)
  have hP : va_P (dC, dI) vwCl [(a_t, .inr (0, [.ref q_1, .ref q_6, .null, .int (0 : Int32), .int (0 : Int32), .int (0 : Int32), .int (0 : Int32), .int (0 : Int32), .int (0 : Int32), .long (0 : Int64)])), (q_1, .inr (2, [.ref q_2, .ref q_3, .ref q_4, .ref q_5, .int (0 : Int32), .int (0 : Int32), .int (0 : Int32), .int (0 : Int32), .int (0 : Int32)])), (q_2, .inl (cy 0, 60, .inl (fun _ => 0))), (q_3, .inl (cy 0, 60, .inl (fun _ => 0))), (q_4, .inl (cy 0, 60, .inl (fun _ => 0))), (q_5, .inl (cy 0, 60, .inl (fun _ => 0))), (q_6, .inr (4, [.ref q_7, .ref q_8, .ref q_9, .int (0 : Int32)])), (q_7, .inl (cy 0, 16, .inl (fun _ => 0))), (q_8, .inl (cy 0, 16, .inl (fun _ => 0))), (q_9, .inl (cy 1, 16, .inr (.inl (fun _ => 0)))), (q_10, .inr (4, [.null, .null, .null, .int (0 : Int32)]))] H := hP
  have hD : va_D A [(a_t, .inr (0, [.ref q_1, .ref q_6, .null, .int (0 : Int32), .int (0 : Int32), .int (0 : Int32), .int (0 : Int32), .int (0 : Int32), .int (0 : Int32), .long (0 : Int64)])), (q_1, .inr (2, [.ref q_2, .ref q_3, .ref q_4, .ref q_5, .int (0 : Int32), .int (0 : Int32), .int (0 : Int32), .int (0 : Int32), .int (0 : Int32)])), (q_2, .inl (cy 0, 60, .inl (fun _ => 0))), (q_3, .inl (cy 0, 60, .inl (fun _ => 0))), (q_4, .inl (cy 0, 60, .inl (fun _ => 0))), (q_5, .inl (cy 0, 60, .inl (fun _ => 0))), (q_6, .inr (4, [.ref q_7, .ref q_8, .ref q_9, .int (0 : Int32)])), (q_7, .inl (cy 0, 16, .inl (fun _ => 0))), (q_8, .inl (cy 0, 16, .inl (fun _ => 0))), (q_9, .inl (cy 1, 16, .inr (.inl (fun _ => 0)))), (q_10, .inr (4, [.null, .null, .null, .int (0 : Int32)]))] := hD
  refine lv_dup hx hb dX0_init_30 rfl ?_
  refine xJv (wr := [(a_t, .inr (0, [.ref q_1, .ref q_6, .null, .int (0 : Int32), .int (0 : Int32), .int (0 : Int32), .int (0 : Int32), .int (0 : Int32), .int (0 : Int32), .long (0 : Int64)])), (q_1, .inr (2, [.ref q_2, .ref q_3, .ref q_4, .ref q_5, .int (0 : Int32), .int (0 : Int32), .int (0 : Int32), .int (0 : Int32), .int (0 : Int32)])), (q_2, .inl (cy 0, 60, .inl (fun _ => 0))), (q_3, .inl (cy 0, 60, .inl (fun _ => 0))), (q_4, .inl (cy 0, 60, .inl (fun _ => 0))), (q_5, .inl (cy 0, 60, .inl (fun _ => 0))), (q_6, .inr (4, [.ref q_7, .ref q_8, .ref q_9, .int (0 : Int32)])), (q_7, .inl (cy 0, 16, .inl (fun _ => 0))), (q_8, .inl (cy 0, 16, .inl (fun _ => 0))), (q_9, .inl (cy 1, 16, .inr (.inl (fun _ => 0))))]) (As := []) (rest := [.ref q_10, .ref a_t]) ⟨hx, hb, hml, hown, hts⟩ (mtX4_init l ad dC dI cy q_10 _) ⟨va_cnB 0 hts gX0_init_X4_init_n20 rfl rfl rfl (hE.1 _ (List.mem_of_getElem? (i := 2) rfl)) (hts _ kX0_init_10) qX4_init.2 ⟨Nat.le_of_ble_eq_true rfl, Nat.le_of_ble_eq_true rfl⟩, rfl, hts _ kX0_init_11⟩ hE hK hP hD hS hA [10] [0, 1, 2, 3, 4, 5, 6, 7, 8, 9] rfl rfl (by decide) (by decide) (by decide) rfl hl.1 rfl (Nat.le_of_ble_eq_true rfl) dX0_init_31 ⟨Nat.le_of_ble_eq_true rfl, Nat.le_of_ble_eq_true rfl⟩ (fun u w1 H locs h9 hF hP hD hS => ?_)
  obtain ⟨q_11, q_12, q_13, hF⟩ := hF
  replace hF : w1 = [(q_10, .inr (4, [.ref q_11, .ref q_12, .ref q_13, .int (0 : Int32)])), (q_11, .inl (cy 0, 16, .inl (fun _ => 0))), (q_12, .inl (cy 0, 16, .inl (fun _ => 0))), (q_13, .inl (cy 1, 16, .inr (.inl (fun _ => 0))))] := hF
  subst hF
  have hP : va_P (dC, dI) vwCl [(a_t, .inr (0, [.ref q_1, .ref q_6, .null, .int (0 : Int32), .int (0 : Int32), .int (0 : Int32), .int (0 : Int32), .int (0 : Int32), .int (0 : Int32), .long (0 : Int64)])), (q_1, .inr (2, [.ref q_2, .ref q_3, .ref q_4, .ref q_5, .int (0 : Int32), .int (0 : Int32), .int (0 : Int32), .int (0 : Int32), .int (0 : Int32)])), (q_2, .inl (cy 0, 60, .inl (fun _ => 0))), (q_3, .inl (cy 0, 60, .inl (fun _ => 0))), (q_4, .inl (cy 0, 60, .inl (fun _ => 0))), (q_5, .inl (cy 0, 60, .inl (fun _ => 0))), (q_6, .inr (4, [.ref q_7, .ref q_8, .ref q_9, .int (0 : Int32)])), (q_7, .inl (cy 0, 16, .inl (fun _ => 0))), (q_8, .inl (cy 0, 16, .inl (fun _ => 0))), (q_9, .inl (cy 1, 16, .inr (.inl (fun _ => 0)))), (q_10, .inr (4, [.ref q_11, .ref q_12, .ref q_13, .int (0 : Int32)])), (q_11, .inl (cy 0, 16, .inl (fun _ => 0))), (q_12, .inl (cy 0, 16, .inl (fun _ => 0))), (q_13, .inl (cy 1, 16, .inr (.inl (fun _ => 0))))] H := hP
  have hD : va_D A [(a_t, .inr (0, [.ref q_1, .ref q_6, .null, .int (0 : Int32), .int (0 : Int32), .int (0 : Int32), .int (0 : Int32), .int (0 : Int32), .int (0 : Int32), .long (0 : Int64)])), (q_1, .inr (2, [.ref q_2, .ref q_3, .ref q_4, .ref q_5, .int (0 : Int32), .int (0 : Int32), .int (0 : Int32), .int (0 : Int32), .int (0 : Int32)])), (q_2, .inl (cy 0, 60, .inl (fun _ => 0))), (q_3, .inl (cy 0, 60, .inl (fun _ => 0))), (q_4, .inl (cy 0, 60, .inl (fun _ => 0))), (q_5, .inl (cy 0, 60, .inl (fun _ => 0))), (q_6, .inr (4, [.ref q_7, .ref q_8, .ref q_9, .int (0 : Int32)])), (q_7, .inl (cy 0, 16, .inl (fun _ => 0))), (q_8, .inl (cy 0, 16, .inl (fun _ => 0))), (q_9, .inl (cy 1, 16, .inr (.inl (fun _ => 0)))), (q_10, .inr (4, [.ref q_11, .ref q_12, .ref q_13, .int (0 : Int32)])), (q_11, .inl (cy 0, 16, .inl (fun _ => 0))), (q_12, .inl (cy 0, 16, .inl (fun _ => 0))), (q_13, .inl (cy 1, 16, .inr (.inl (fun _ => 0))))] := hD
  refine va_put (D := (dC, dI)) (ci := 0) (v := .ref q_10) (C := RX0) (T := TX0) (N := 10) hx hb hts iX0_init_X0 tyX0 tyX0_ok nmX0 hown hK hP hD hS 0 rfl rfl 2 (Nat.le_of_ble_eq_true rfl) (hts _ kX0_init_13) (fun _ h9 => h9) rfl (tyX0_ok 2 (Nat.le_of_ble_eq_true rfl)) rfl rfl (Nat.le_of_ble_eq_true rfl) dX0_init_34 (fun H locs hP hD hS => ?_)
  have hP : va_P (dC, dI) vwCl [(a_t, .inr (0, [.ref q_1, .ref q_6, .ref q_10, .int (0 : Int32), .int (0 : Int32), .int (0 : Int32), .int (0 : Int32), .int (0 : Int32), .int (0 : Int32), .long (0 : Int64)])), (q_1, .inr (2, [.ref q_2, .ref q_3, .ref q_4, .ref q_5, .int (0 : Int32), .int (0 : Int32), .int (0 : Int32), .int (0 : Int32), .int (0 : Int32)])), (q_2, .inl (cy 0, 60, .inl (fun _ => 0))), (q_3, .inl (cy 0, 60, .inl (fun _ => 0))), (q_4, .inl (cy 0, 60, .inl (fun _ => 0))), (q_5, .inl (cy 0, 60, .inl (fun _ => 0))), (q_6, .inr (4, [.ref q_7, .ref q_8, .ref q_9, .int (0 : Int32)])), (q_7, .inl (cy 0, 16, .inl (fun _ => 0))), (q_8, .inl (cy 0, 16, .inl (fun _ => 0))), (q_9, .inl (cy 1, 16, .inr (.inl (fun _ => 0)))), (q_10, .inr (4, [.ref q_11, .ref q_12, .ref q_13, .int (0 : Int32)])), (q_11, .inl (cy 0, 16, .inl (fun _ => 0))), (q_12, .inl (cy 0, 16, .inl (fun _ => 0))), (q_13, .inl (cy 1, 16, .inr (.inl (fun _ => 0))))] H := hP
  have hD : va_D A [(a_t, .inr (0, [.ref q_1, .ref q_6, .ref q_10, .int (0 : Int32), .int (0 : Int32), .int (0 : Int32), .int (0 : Int32), .int (0 : Int32), .int (0 : Int32), .long (0 : Int64)])), (q_1, .inr (2, [.ref q_2, .ref q_3, .ref q_4, .ref q_5, .int (0 : Int32), .int (0 : Int32), .int (0 : Int32), .int (0 : Int32), .int (0 : Int32)])), (q_2, .inl (cy 0, 60, .inl (fun _ => 0))), (q_3, .inl (cy 0, 60, .inl (fun _ => 0))), (q_4, .inl (cy 0, 60, .inl (fun _ => 0))), (q_5, .inl (cy 0, 60, .inl (fun _ => 0))), (q_6, .inr (4, [.ref q_7, .ref q_8, .ref q_9, .int (0 : Int32)])), (q_7, .inl (cy 0, 16, .inl (fun _ => 0))), (q_8, .inl (cy 0, 16, .inl (fun _ => 0))), (q_9, .inl (cy 1, 16, .inr (.inl (fun _ => 0)))), (q_10, .inr (4, [.ref q_11, .ref q_12, .ref q_13, .int (0 : Int32)])), (q_11, .inl (cy 0, 16, .inl (fun _ => 0))), (q_12, .inl (cy 0, 16, .inl (fun _ => 0))), (q_13, .inl (cy 1, 16, .inr (.inl (fun _ => 0))))] := hD
  refine W.widen (k := 13) (n := 353) (Nat.le_of_ble_eq_true rfl) (Nat.le_of_ble_eq_true rfl) ?_
  rw [← hQ]
  exact W.vret hx hb hr (fun t ht hW => ⟨⟨(), rfl, trivial, x_end (w1 := [(a_t, .inr (0, [.ref q_1, .ref q_6, .ref q_10, .int (0 : Int32), .int (0 : Int32), .int (0 : Int32), .int (0 : Int32), .int (0 : Int32), .int (0 : Int32), .long (0 : Int64)])), (q_1, .inr (2, [.ref q_2, .ref q_3, .ref q_4, .ref q_5, .int (0 : Int32), .int (0 : Int32), .int (0 : Int32), .int (0 : Int32), .int (0 : Int32)])), (q_2, .inl (cy 0, 60, .inl (fun _ => 0))), (q_3, .inl (cy 0, 60, .inl (fun _ => 0))), (q_4, .inl (cy 0, 60, .inl (fun _ => 0))), (q_5, .inl (cy 0, 60, .inl (fun _ => 0))), (q_6, .inr (4, [.ref q_7, .ref q_8, .ref q_9, .int (0 : Int32)])), (q_7, .inl (cy 0, 16, .inl (fun _ => 0))), (q_8, .inl (cy 0, 16, .inl (fun _ => 0))), (q_9, .inl (cy 1, 16, .inr (.inl (fun _ => 0)))), (q_10, .inr (4, [.ref q_11, .ref q_12, .ref q_13, .int (0 : Int32)])), (q_11, .inl (cy 0, 16, .inl (fun _ => 0))), (q_12, .inl (cy 0, 16, .inl (fun _ => 0))), (q_13, .inl (cy 1, 16, .inr (.inl (fun _ => 0))))]) hP hD hK [0, 1, 2, 3, 4, 5, 6, 7, 8, 9, 10, 11, 12, 13] rfl (by decide +kernel) ⟨q_1, q_2, q_3, q_4, q_5, q_6, q_7, q_8, q_9, q_10, q_11, q_12, q_13, rfl⟩ ht hW⟩, hS.F ht⟩) hS.2.2 dX0_init_37

theorem dfX1 : ∀ j, j < 6 → defaultValue (tyX1 j) = vp_V [.null, .null, .int (0 : Int32), .int (0 : Int32), .int (0 : Int32), .int (0 : Int32)] j := by
  intro j hj
  rcases (show j = 0 ∨ j = 1 ∨ j = 2 ∨ j = 3 ∨ j = 4 ∨ j = 5 by omega) with rfl | rfl | rfl | rfl | rfl | rfl <;> rfl
theorem qX1_init : yX1_init.cls = RX1 ∧ yX1_init.cls ≠ "java/lang/invoke/MethodHandle" ∧ yX1_init.cls ≠ "java/lang/invoke/VarHandle" ∧ (parseMethodDescriptor yX1_init.desc).map (fun d => d.parameters.length) = some 0 := by decide +kernel
theorem kX3_init_0 : Cond.methodLink RX3 3 objectInit ∈ wsX3_init := (List.mem_cons_of_mem _ (List.mem_append_left _ (List.mem_append_left _ (List.mem_of_getElem? (i := 0) rfl))))
theorem kX3_init_1 : Cond.instanceMethod objectInit ∈ wsX3_init := (List.mem_cons_of_mem _ (List.mem_append_left _ (List.mem_append_left _ (List.mem_of_getElem? (i := 1) rfl))))
theorem kX3_init_2 : Cond.code objectInit ⟨#[0xb1]⟩ 1 none ∈ wsX3_init := (List.mem_cons_of_mem _ (List.mem_append_left _ (List.mem_append_left _ (List.mem_of_getElem? (i := 2) rfl))))
theorem kX3_init_3 : Cond.classLink RX3 9 RX1 ∈ wsX3_init := (List.mem_cons_of_mem _ (List.mem_append_left _ (List.mem_append_left _ (List.mem_of_getElem? (i := 3) rfl))))
theorem kX3_init_4 : Cond.instantiable RX1 6 ∈ wsX3_init := (List.mem_cons_of_mem _ (List.mem_append_left _ (List.mem_append_left _ (List.mem_of_getElem? (i := 4) rfl))))
theorem kX3_init_5 : Cond.initialized RX1 ∈ wsX3_init := (List.mem_cons_of_mem _ (List.mem_append_left _ (List.mem_append_left _ (List.mem_of_getElem? (i := 5) rfl))))
theorem kX3_init_6 : Cond.instanceMethod yX1_init ∈ wsX3_init := (List.mem_cons_of_mem _ (List.mem_append_left _ (List.mem_append_left _ (List.mem_of_getElem? (i := 8) rfl))))
theorem kX3_init_7 : Cond.methodLink RX3 11 yX1_init ∈ wsX3_init := (List.mem_cons_of_mem _ (List.mem_append_left _ (List.mem_append_left _ (List.mem_of_getElem? (i := 7) rfl))))
theorem kX3_init_8 : Cond.fieldLink RX3 12 "KnapsackCore$Reader" "told" "LKnapsackCore$Load;" ∈ wsX3_init := (List.mem_cons_of_mem _ (List.mem_append_left _ (List.mem_append_left _ (List.mem_of_getElem? (i := 6) rfl))))
theorem iX3_init_X1 : ∀ w ∈ u_ws RX1 TX1 6, w ∈ wsX3_init := fun w h => (List.mem_cons_of_mem _ (List.mem_append_left _ (List.mem_append_right _ h)))
theorem iX3_init_X3 : ∀ w ∈ u_ws RX3 TX3 5, w ∈ wsX3_init := fun w h => (List.mem_cons_of_mem _ (List.mem_append_right _ h))
set_option maxHeartbeats 4000000 in
set_option maxRecDepth 100000 in
/-- new KnapsackCore$Reader -/
theorem mtX3_init (l : Launch) (ad : (Nat → Nat) × (Nat → Nat)) (dC : Nat → ClassId) (dI : Nat → Nat → Nat) (cy : Nat → ClassId) (a_t : Nat) (sz : Nat) : xMv l yX3_init wsX3_init ({ frames := 2, cells := 3, slots := 126, locals := 50 } : Room) ad (dC, dI) vwCl (xT cy) [.ref a_t] [(a_t, .inr (3, [.null, .int (0 : Int32), .int (0 : Int32), .int (0 : Int32), .int (0 : Int32)]))] sz (fun (_ : Unit) => True) (fun (_ : Unit) w => ∃ (q_1 : Nat) (q_2 : Nat) (q_3 : Nat), w = [(a_t, .inr (3, [.ref q_1, .int (0 : Int32), .int (0 : Int32), .int (0 : Int32), .int (0 : Int32)])), (q_1, .inr (1, [.ref q_2, .ref q_3, .int (0 : Int32), .int (100 : Int32), .int (400 : Int32), .int (0 : Int32)])), (q_2, .inl (cy 0, 60, .inl (fun _ => 0))), (q_3, .inl (cy 0, 60, .inl (fun _ => 0)))]) 3 126 := by
  unfold xMv
  refine Met.ofW (cc := cX3_init) (maxL := 1) (ret := none) (by decide) rfl ?_
  intro p e s m args below meth c s₁ B hml hv
  obtain ⟨rfl, hsz, hP, hK, hD0, hE⟩ := hv
  have hx := B.exec
  have hb := B.bytes
  have hr := B.returns
  have hts := atoms_spec (ws := wsX3_init) B.pre
  have hown : s.vm.findClass RX3 = some m.cls := findClass_of_methodNamed B.named
  have hlocks := B.notSynchronized
  have hin : meth.name = "<init>" := (name_of_methodNamed B.named B.method).1
  subst hsz
  have hD := hD0.self (sz := s.heap.size)
  generalize hAe : va_A [(a_t, .inr (3, [.null, .int (0 : Int32), .int (0 : Int32), .int (0 : Int32), .int (0 : Int32)]))] s.heap.size = A at hD hE ⊢
  have hA : ∀ q : Nat, s.heap.size ≤ q → A q := fun q h => by rw [← hAe]; exact Or.inr h
  have hS : va_S A s.heap s.heap [] := va_S.rf
  have hl := lv_entry ([.ref a_t]) (n := 1) (Nat.le_of_ble_eq_true rfl)
  rw [lg_entry_eq]
  generalize (lg_sl ([.ref a_t]) ++ List.replicate (1 - (lg_sl ([.ref a_t])).length) Slot.unset).toArray = ls at hl ⊢
  have hl : lv_has ls 1 [(0, .ref a_t)] := hl
  generalize hQ : MQ below _ _ s _ _ _ = Q
  generalize ([.ref a_t] : List Value).toArray = args at hts hQ ⊢
  clear B hD0 hAe
  refine lv_aload_n hx hb dX3_init_0 rfl (lv_at hl 0 rfl) ?_
  refine W.objInit hx hb hown (hts _ kX3_init_0) (hts _ kX3_init_1) (hts _ kX3_init_2) rfl (by rw [hml]; exact hl.1) rfl dX3_init_1 (Nat.le_of_ble_eq_true rfl) (Nat.le_of_ble_eq_true rfl) ?_
  refine W.eq (g2 := F0 m 4 ls []) rfl ?_
  refine lv_aload_n hx hb dX3_init_4 rfl (lv_at hl 0 rfl) ?_
  refine va_new (D := (dC, dI)) (ci := 1) (fs := [.null, .null, .int (0 : Int32), .int (0 : Int32), .int (0 : Int32), .int (0 : Int32)]) (C := RX1) (T := TX1) (N := 6) hx hb hts iX3_init_X1 tyX1 tyX1_ok hown (hts _ kX3_init_3) (hts _ kX3_init_4) (hts _ kX3_init_5) hK hP hD hS hA rfl dfX1 (Nat.le_of_ble_eq_true rfl) (Nat.le_of_ble_eq_true rfl) dX3_init_5 (fun q_1 H hP hD hS => ?_)
  have hP : va_P (dC, dI) vwCl [(a_t, .inr (3, [.null, .int (0 : Int32), .int (0 : Int32), .int (0 : Int32), .int (0 : Int32)])), (q_1, .inr (1, [.null, .null, .int (0 : Int32), .int (0 : Int32), .int (0 : Int32), .int (0 : Int32)]))] H := hP
  have hD : va_D A [(a_t, .inr (3, [.null, .int (0 : Int32), .int (0 : Int32), .int (0 : Int32), .int (0 : Int32)])), (q_1, .inr (1, [.null, .null, .int (0 : Int32), .int (0 : Int32), .int (0 : Int32), .int (0 : Int32)]))] := hD
  refine lv_dup hx hb dX3_init_8 rfl ?_
  refine xIv (wr := [(a_t, .inr (3, [.null, .int (0 : Int32), .int (0 : Int32), .int (0 : Int32), .int (0 : Int32)]))]) (As := []) (rest := [.ref q_1, .ref a_t]) ⟨hx, hb, hml, hown, hts⟩ (mtX1_init l ad dC dI cy q_1 _) (cwI 0 hts gX3_init_X1_init rfl rfl rfl (hts _ kX3_init_5) (hts _ kX3_init_7) (hts _ kX3_init_6) rfl qX1_init.2 ⟨Nat.le_of_ble_eq_true rfl, Nat.le_of_ble_eq_true rfl⟩) hE hK hP hD hS hA [1] [0] rfl rfl (by decide) (by decide) (by decide) rfl hl.1 rfl (Nat.le_of_ble_eq_true rfl) dX3_init_9 ⟨Nat.le_of_ble_eq_true rfl, Nat.le_of_ble_eq_true rfl⟩ (fun u w1 H locs h9 hF hP hD hS => ?_)
  obtain ⟨q_2, q_3, hF⟩ := hF
  replace hF : w1 = [(q_1, .inr (1, [.ref q_2, .ref q_3, .int (0 : Int32), .int (100 : Int32), .int (400 : Int32), .int (0 : Int32)])), (q_2, .inl (cy 0, 60, .inl (fun _ => 0))), (q_3, .inl (cy 0, 60, .inl (fun _ => 0)))] := hF
  subst hF
  have hP : va_P (dC, dI) vwCl [(a_t, .inr (3, [.null, .int (0 : Int32), .int (0 : Int32), .int (0 : Int32), .int (0 : Int32)])), (q_1, .inr (1, [.ref q_2, .ref q_3, .int (0 : Int32), .int (100 : Int32), .int (400 : Int32), .int (0 : Int32)])), (q_2, .inl (cy 0, 60, .inl (fun _ => 0))), (q_3, .inl (cy 0, 60, .inl (fun _ => 0)))] H := hP
  have hD : va_D A [(a_t, .inr (3, [.null, .int (0 : Int32), .int (0 : Int32), .int (0 : Int32), .int (0 : Int32)])), (q_1, .inr (1, [.ref q_2, .ref q_3, .int (0 : Int32), .int (100 : Int32), .int (400 : Int32), .int (0 : Int32)])), (q_2, .inl (cy 0, 60, .inl (fun _ => 0))), (q_3, .inl (cy 0, 60, .inl (fun _ => 0)))] := hD
  refine va_putF (D := (dC, dI)) (ci := 3) (v := .ref q_1) (C := RX3) (T := TX3) (N := 5) hx hb hts iX3_init_X3 tyX3 tyX3_ok nmX3 hown hK hP hD hS 0 rfl rfl 0 (Nat.le_of_ble_eq_true rfl) (hts _ kX3_init_8) (fun _ h9 => h9) rfl hin rfl (tyX3_ok 0 (Nat.le_of_ble_eq_true rfl)) rfl rfl (Nat.le_of_ble_eq_true rfl) dX3_init_12 (fun H locs hP hD hS => ?_)
  have hP : va_P (dC, dI) vwCl [(a_t, .inr (3, [.ref q_1, .int (0 : Int32), .int (0 : Int32), .int (0 : Int32), .int (0 : Int32)])), (q_1, .inr (1, [.ref q_2, .ref q_3, .int (0 : Int32), .int (100 : Int32), .int (400 : Int32), .int (0 : Int32)])), (q_2, .inl (cy 0, 60, .inl (fun _ => 0))), (q_3, .inl (cy 0, 60, .inl (fun _ => 0)))] H := hP
  have hD : va_D A [(a_t, .inr (3, [.ref q_1, .int (0 : Int32), .int (0 : Int32), .int (0 : Int32), .int (0 : Int32)])), (q_1, .inr (1, [.ref q_2, .ref q_3, .int (0 : Int32), .int (100 : Int32), .int (400 : Int32), .int (0 : Int32)])), (q_2, .inl (cy 0, 60, .inl (fun _ => 0))), (q_3, .inl (cy 0, 60, .inl (fun _ => 0)))] := hD
  refine W.widen (k := 3) (n := 126) (Nat.le_of_ble_eq_true rfl) (Nat.le_of_ble_eq_true rfl) ?_
  rw [← hQ]
  exact W.vret hx hb hr (fun t ht hW => ⟨⟨(), rfl, trivial, x_end (w1 := [(a_t, .inr (3, [.ref q_1, .int (0 : Int32), .int (0 : Int32), .int (0 : Int32), .int (0 : Int32)])), (q_1, .inr (1, [.ref q_2, .ref q_3, .int (0 : Int32), .int (100 : Int32), .int (400 : Int32), .int (0 : Int32)])), (q_2, .inl (cy 0, 60, .inl (fun _ => 0))), (q_3, .inl (cy 0, 60, .inl (fun _ => 0)))]) hP hD hK [0, 1, 2, 3] rfl (by decide +kernel) ⟨q_1, q_2, q_3, rfl⟩ ht hW⟩, hS.F ht⟩) hS.2.2 dX3_init_15
