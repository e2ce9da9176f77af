/-- java/lang/Float.isNaN(F)Z -/
def wJxf58ca_isNaN_12338 (post : Int32 → Prop) (v0 : UInt32) : Prop :=
  ((Op.cmpValue (FP.fcmp v0 v0) .l) = (0 : Int32) → post (0 : Int32)) ∧ (¬ (Op.cmpValue (FP.fcmp v0 v0) .l) = (0 : Int32) → post (1 : Int32))
set_option maxHeartbeats 4000000 in
set_option maxRecDepth 100000 in
theorem mtJxf58ca_isNaN_12338 (l : Launch) (ad : (Nat → Nat) × (Nat → Nat)) (dC : Nat → ClassId) (dI : Nat → Nat → Nat) (cy : Nat → ClassId) (sz : Nat) (v0 : UInt32) {post : Int32 → Prop} (h : wJxf58ca_isNaN_12338 post v0) : xMi l yJxf58ca_isNaN_12338 wsJxf58ca_isNaN_12338 ({ frames := 0, cells := 0, slots := 0, locals := 0 } : Room) ad (dC, dI) vwCl (xT cy) [.float v0] [] sz (fun (r : Int32) (_ : Unit) => post r) (fun (_ : Unit) w => w = []) 0 0 := by
  unfold xMi
  refine va_MetF (cc := cJxf58ca_isNaN_12338) (maxL := 1) (ret := (some .boolean)) (by decide +kernel) rfl ?_
  intro p e s m args below meth c s₁ B hml hv
  obtain ⟨rfl, hsz, hP, hK, hD0, hE⟩ := hv
  have hx := B.exec
  have hb := B.bytes
  have hr := B.returns
  have hts := atoms_spec (ws := wsJxf58ca_isNaN_12338) B.pre
  have hown : s.vm.findClass RJxf58ca = some m.cls := findClass_of_methodNamed B.named
  have hlocks := B.notSynchronized
  subst hsz
  have hD := hD0.self (sz := s.heap.size)
  generalize hAe : va_A [] s.heap.size = A at hD hE ⊢
  have hA : ∀ q : Nat, s.heap.size ≤ q → A q := fun q h => by rw [← hAe]; exact Or.inr h
  have hS : va_S A s.heap s.heap [] := va_S.rf
  have hl := lv_entry ([.float v0]) (n := 1) (Nat.le_of_ble_eq_true rfl)
  rw [lg_entry_eq]
  generalize (lg_sl ([.float v0]) ++ List.replicate (1 - (lg_sl ([.float v0])).length) Slot.unset).toArray = ls at hl ⊢
  have hl : lv_has ls 1 [(0, .float v0)] := hl
  generalize hQ : MQ below _ _ s _ _ _ = Q
  generalize ([.float v0] : List Value).toArray = args at hts hQ ⊢
  clear B hD0 hAe
  refine lv_fload_n hx hb dJxf58ca_isNaN_12338_0 rfl (lv_at hl 0 rfl) ?_
  refine lv_fload_n hx hb dJxf58ca_isNaN_12338_1 rfl (lv_at hl 0 rfl) ?_
  refine lv_fcmp hx hb dJxf58ca_isNaN_12338_2 ?_
  refine lv_if_eq (tgt := 10) hx hb dJxf58ca_isNaN_12338_3 (by decide) (fun c_1 => ?_) (fun c_1 => ?_)
  · replace h := h.1 c_1
    refine lv_iconst (v := 0) hx hb dJxf58ca_isNaN_12338_10 (by decide) ?_
    rw [← hQ]
    exact W.zret (v := (0 : Int32)) hx hb hr rfl (fun t ht hW => ⟨⟨(0 : Int32), (), rfl, h, x_end (w1 := []) hP hD hK [] rfl (by decide) rfl ht hW⟩, hS.F ht⟩) hS.2.2 dJxf58ca_isNaN_12338_11
  · replace h := h.2 c_1
    refine lv_iconst (v := 1) hx hb dJxf58ca_isNaN_12338_6 (by decide) ?_
    refine lv_goto (tgt := 11) hx hb dJxf58ca_isNaN_12338_7 (by decide) ?_
    rw [← hQ]
    exact W.zret (v := (1 : Int32)) hx hb hr rfl (fun t ht hW => ⟨⟨(1 : Int32), (), rfl, h, x_end (w1 := []) hP hD hK [] rfl (by decide) rfl ht hW⟩, hS.F ht⟩) hS.2.2 dJxf58ca_isNaN_12338_11

theorem qJxf58ca_isNaN_12338 : yJxf58ca_isNaN_12338.cls = RJxf58ca ∧ yJxf58ca_isNaN_12338.cls ≠ "java/lang/invoke/MethodHandle" ∧ yJxf58ca_isNaN_12338.cls ≠ "java/lang/invoke/VarHandle" ∧ (parseMethodDescriptor yJxf58ca_isNaN_12338.desc).map (fun d => d.parameters.length) = some 1 := by decide +kernel
def wJxf58ca_floatToIntBits_5c35a_4 (post : Int32 → Prop) (v0 : UInt32) (k0 : Int32) : Prop :=
  (k0 = (0 : Int32) → post ((v0).toInt32)) ∧ (¬ k0 = (0 : Int32) → post (2143289344 : Int32))
/-- java/lang/Float.floatToIntBits(F)I -/
def wJxf58ca_floatToIntBits_5c35a (post : Int32 → Prop) (v0 : UInt32) : Prop :=
  wJxf58ca_isNaN_12338 (fun r1 => wJxf58ca_floatToIntBits_5c35a_4 post v0 r1) v0
theorem kJxf58ca_floatToIntBits_5c35a_0 : Cond.constant RJxf58ca 77 (2143289344) ∈ wsJxf58ca_floatToIntBits_5c35a := (List.mem_cons_of_mem _ (List.mem_of_getElem? (i := 4) rfl))
theorem kJxf58ca_floatToIntBits_5c35a_1 : Cond.methodLink RJxf58ca 74 ⟨"java/lang/Float", "floatToRawIntBits", "(F)I"⟩ ∈ wsJxf58ca_floatToIntBits_5c35a := (List.mem_cons_of_mem _ (List.mem_of_getElem? (i := 0) rfl))
theorem kJxf58ca_floatToIntBits_5c35a_2 : Cond.native ⟨"java/lang/Float", "floatToRawIntBits", "(F)I"⟩ ∈ wsJxf58ca_floatToIntBits_5c35a := (List.mem_cons_of_mem _ (List.mem_of_getElem? (i := 1) rfl))
theorem kJxf58ca_floatToIntBits_5c35a_3 : Cond.static ⟨"java/lang/Float", "floatToRawIntBits", "(F)I"⟩ ∈ wsJxf58ca_floatToIntBits_5c35a := (List.mem_cons_of_mem _ (List.mem_of_getElem? (i := 2) rfl))
theorem kJxf58ca_floatToIntBits_5c35a_4 : Cond.initialized "java/lang/Float" ∈ wsJxf58ca_floatToIntBits_5c35a := (List.mem_cons_of_mem _ (List.mem_of_getElem? (i := 3) rfl))
set_option maxHeartbeats 4000000 in
set_option maxRecDepth 100000 in
theorem mtJxf58ca_floatToIntBits_5c35a (l : Launch) (ad : (Nat → Nat) × (Nat → Nat)) (dC : Nat → ClassId) (dI : Nat → Nat → Nat) (cy : Nat → ClassId) (sz : Nat) (v0 : UInt32) {post : Int32 → Prop} (h : wJxf58ca_floatToIntBits_5c35a post v0) : xMi l yJxf58ca_floatToIntBits_5c35a wsJxf58ca_floatToIntBits_5c35a ({ frames := 1, cells := 0, slots := 0, locals := 30 } : Room) ad (dC, dI) vwCl (xT cy) [.float v0] [] sz (fun (r : Int32) (_ : Unit) => post r) (fun (_ : Unit) w => w = []) 0 0 := by
  unfold xMi
  refine va_MetF (cc := cJxf58ca_floatToIntBits_5c35a) (maxL := 1) (ret := (some .int)) (by decide +kernel) rfl ?_
  intro p e s m args below meth c s₁ B hml hv
  obtain ⟨rfl, hsz, hP, hK, hD0, hE⟩ := hv
  have hx := B.exec
  have hb := B.bytes
  have hr := B.returns
  have hts := atoms_spec (ws := wsJxf58ca_floatToIntBits_5c35a) B.pre
  have hown : s.vm.findClass RJxf58ca = some m.cls := findClass_of_methodNamed B.named
  have hlocks := B.notSynchronized
  subst hsz
  have hD := hD0.self (sz := s.heap.size)
  generalize hAe : va_A [] s.heap.size = A at hD hE ⊢
  have hA : ∀ q : Nat, s.heap.size ≤ q → A q := fun q h => by rw [← hAe]; exact Or.inr h
  have hS : va_S A s.heap s.heap [] := va_S.rf
  have hl := lv_entry ([.float v0]) (n := 1) (Nat.le_of_ble_eq_true rfl)
  rw [lg_entry_eq]
  generalize (lg_sl ([.float v0]) ++ List.replicate (1 - (lg_sl ([.float v0])).length) Slot.unset).toArray = ls at hl ⊢
  have hl : lv_has ls 1 [(0, .float v0)] := hl
  generalize hQ : MQ below _ _ s _ _ _ = Q
  generalize ([.float v0] : List Value).toArray = args at hts hQ ⊢
  clear B hD0 hAe
  refine lv_fload_n hx hb dJxf58ca_floatToIntBits_5c35a_0 rfl (lv_at hl 0 rfl) ?_
  refine xSi0 (As := [.float v0]) (rest := []) ⟨hx, hb, hml, hown, hts⟩ (mtJxf58ca_isNaN_12338 l ad dC dI cy  _  v0 h) (va_cwS 1 hts gJxf58ca_floatToIntBits_5c35a_Jxf58ca_isNaN_12338 rfl rfl rfl qJxf58ca_isNaN_12338.2 ⟨Nat.le_of_ble_eq_true rfl, Nat.le_of_ble_eq_true rfl⟩) hE hK hP hD hS hA [] rfl (by decide) rfl hl.1 rfl (Nat.le_of_ble_eq_true rfl) dJxf58ca_floatToIntBits_5c35a_1 ⟨Nat.le_refl _, Nat.le_refl _⟩ (fun r1 H locs h hP hS => ?_)
  try dsimp only at h
  refine lv_if_ne (tgt := 12) hx hb dJxf58ca_floatToIntBits_5c35a_4 (by decide) (fun c_1 => ?_) (fun c_1 => ?_)
  · replace h := h.2 c_1
    refine lv_ldc hx hb hown (hts _ kJxf58ca_floatToIntBits_5c35a_0) dJxf58ca_floatToIntBits_5c35a_12 ?_
    rw [← hQ]
    exact W.iret (v := (2143289344 : Int32)) hx hb hr (fun t ht hW => ⟨⟨(2143289344 : Int32), (), rfl, h, x_end (w1 := []) hP hD hK [] rfl (by decide) rfl ht hW⟩, hS.F ht⟩) hS.2.2 dJxf58ca_floatToIntBits_5c35a_14
  · replace h := h.1 c_1
    refine lv_fload_n hx hb dJxf58ca_floatToIntBits_5c35a_7 rfl (lv_at hl 0 rfl) ?_
    refine vn_f2i hx hb (hml.trans hl.1.symm) hown (hts _ kJxf58ca_floatToIntBits_5c35a_1) (hts _ kJxf58ca_floatToIntBits_5c35a_2) (hts _ kJxf58ca_floatToIntBits_5c35a_3) (hts _ kJxf58ca_floatToIntBits_5c35a_4) (Nat.le_of_ble_eq_true rfl) (Nat.le_of_ble_eq_true rfl) dJxf58ca_floatToIntBits_5c35a_8 ?_
    rw [← hQ]
    exact W.iret (v := (v0).toInt32) hx hb hr (fun t ht hW => ⟨⟨(v0).toInt32, (), rfl, h, x_end (w1 := []) hP hD hK [] rfl (by decide) rfl ht hW⟩, hS.F ht⟩) hS.2.2 dJxf58ca_floatToIntBits_5c35a_11

/-- java/lang/Double.isNaN(D)Z -/
def wJxe99ae_isNaN_b9ae7 (post : Int32 → Prop) (v0 : UInt64) : Prop :=
  ((Op.cmpValue (FP.dcmp v0 v0) .l) = (0 : Int32) → post (0 : Int32)) ∧ (¬ (Op.cmpValue (FP.dcmp v0 v0) .l) = (0 : Int32) → post (1 : Int32))
set_option maxHeartbeats 4000000 in
set_option maxRecDepth 100000 in
theorem mtJxe99ae_isNaN_b9ae7 (l : Launch) (ad : (Nat → Nat) × (Nat → Nat)) (dC : Nat → ClassId) (dI : Nat → Nat → Nat) (cy : Nat → ClassId) (sz : Nat) (v0 : UInt64) {post : Int32 → Prop} (h : wJxe99ae_isNaN_b9ae7 post v0) : xMi l yJxe99ae_isNaN_b9ae7 wsJxe99ae_isNaN_b9ae7 ({ frames := 0, cells := 0, slots := 0, locals := 0 } : Room) ad (dC, dI) vwCl (xT cy) [.double v0] [] sz (fun (r : Int32) (_ : Unit) => post r) (fun (_ : Unit) w => w = []) 0 0 := by
  unfold xMi
  refine va_MetF (cc := cJxe99ae_isNaN_b9ae7) (maxL := 2) (ret := (some .boolean)) (by decide +kernel) rfl ?_
  intro p e s m args below meth c s₁ B hml hv
  obtain ⟨rfl, hsz, hP, hK, hD0, hE⟩ := hv
  have hx := B.exec
  have hb := B.bytes
  have hr := B.returns
  have hts := atoms_spec (ws := wsJxe99ae_isNaN_b9ae7) B.pre
  have hown : s.vm.findClass RJxe99ae = some m.cls := findClass_of_methodNamed B.named
  have hlocks := B.notSynchronized
  subst hsz
  have hD := hD0.self (sz := s.heap.size)
  generalize hAe : va_A [] s.heap.size = A at hD hE ⊢
  have hA : ∀ q : Nat, s.heap.size ≤ q → A q := fun q h => by rw [← hAe]; exact Or.inr h
  have hS : va_S A s.heap s.heap [] := va_S.rf
  have hl := lv_entry ([.double v0]) (n := 2) (Nat.le_of_ble_eq_true rfl)
  rw [lg_entry_eq]
  generalize (lg_sl ([.double v0]) ++ List.replicate (2 - (lg_sl ([.double v0])).length) Slot.unset).toArray = ls at hl ⊢
  have hl : lv_has ls 2 [(0, .double v0)] := hl
  generalize hQ : MQ below _ _ s _ _ _ = Q
  generalize ([.double v0] : List Value).toArray = args at hts hQ ⊢
  clear B hD0 hAe
  refine lv_dload_n hx hb dJxe99ae_isNaN_b9ae7_0 rfl (lv_at hl 0 rfl) ?_
  refine lv_dload_n hx hb dJxe99ae_isNaN_b9ae7_1 rfl (lv_at hl 0 rfl) ?_
  refine lv_dcmp hx hb dJxe99ae_isNaN_b9ae7_2 ?_
  refine lv_if_eq (tgt := 10) hx hb dJxe99ae_isNaN_b9ae7_3 (by decide) (fun c_1 => ?_) (fun c_1 => ?_)
  · replace h := h.1 c_1
    refine lv_iconst (v := 0) hx hb dJxe99ae_isNaN_b9ae7_10 (by decide) ?_
    rw [← hQ]
    exact W.zret (v := (0 : Int32)) hx hb hr rfl (fun t ht hW => ⟨⟨(0 : Int32), (), rfl, h, x_end (w1 := []) hP hD hK [] rfl (by decide) rfl ht hW⟩, hS.F ht⟩) hS.2.2 dJxe99ae_isNaN_b9ae7_11
  · replace h := h.2 c_1
    refine lv_iconst (v := 1) hx hb dJxe99ae_isNaN_b9ae7_6 (by decide) ?_
    refine lv_goto (tgt := 11) hx hb dJxe99ae_isNaN_b9ae7_7 (by decide) ?_
    rw [← hQ]
    exact W.zret (v := (1 : Int32)) hx hb hr rfl (fun t ht hW => ⟨⟨(1 : Int32), (), rfl, h, x_end (w1 := []) hP hD hK [] rfl (by decide) rfl ht hW⟩, hS.F ht⟩) hS.2.2 dJxe99ae_isNaN_b9ae7_11

theorem qJxe99ae_isNaN_b9ae7 : yJxe99ae_isNaN_b9ae7.cls = RJxe99ae ∧ yJxe99ae_isNaN_b9ae7.cls ≠ "java/lang/invoke/MethodHandle" ∧ yJxe99ae_isNaN_b9ae7.cls ≠ "java/lang/invoke/VarHandle" ∧ (parseMethodDescriptor yJxe99ae_isNaN_b9ae7.desc).map (fun d => d.parameters.length) = some 1 := by decide +kernel
def wJxe99ae_doubleToLongBits_ccdee_4 (post : Int64 → Prop) (v0 : UInt64) (k0 : Int32) : Prop :=
  (k0 = (0 : Int32) → post ((v0).toInt64)) ∧ (¬ k0 = (0 : Int32) → post (9221120237041090560 : Int64))
/-- java/lang/Double.doubleToLongBits(D)J -/
def wJxe99ae_doubleToLongBits_ccdee (post : Int64 → Prop) (v0 : UInt64) : Prop :=
  wJxe99ae_isNaN_b9ae7 (fun r1 => wJxe99ae_doubleToLongBits_ccdee_4 post v0 r1) v0
theorem kJxe99ae_doubleToLongBits_ccdee_0 : Cond.constantLong RJxe99ae 137 (9221120237041090560) ∈ wsJxe99ae_doubleToLongBits_ccdee := (List.mem_cons_of_mem _ (List.mem_of_getElem? (i := 4) rfl))
theorem kJxe99ae_doubleToLongBits_ccdee_1 : Cond.methodLink RJxe99ae 134 ⟨"java/lang/Double", "doubleToRawLongBits", "(D)J"⟩ ∈ wsJxe99ae_doubleToLongBits_ccdee := (List.mem_cons_of_mem _ (List.mem_of_getElem? (i := 0) rfl))
theorem kJxe99ae_doubleToLongBits_ccdee_2 : Cond.native ⟨"java/lang/Double", "doubleToRawLongBits", "(D)J"⟩ ∈ wsJxe99ae_doubleToLongBits_ccdee := (List.mem_cons_of_mem _ (List.mem_of_getElem? (i := 1) rfl))
theorem kJxe99ae_doubleToLongBits_ccdee_3 : Cond.static ⟨"java/lang/Double", "doubleToRawLongBits", "(D)J"⟩ ∈ wsJxe99ae_doubleToLongBits_ccdee := (List.mem_cons_of_mem _ (List.mem_of_getElem? (i := 2) rfl))
theorem kJxe99ae_doubleToLongBits_ccdee_4 : Cond.initialized "java/lang/Double" ∈ wsJxe99ae_doubleToLongBits_ccdee := (List.mem_cons_of_mem _ (List.mem_of_getElem? (i := 3) rfl))
set_option maxHeartbeats 4000000 in
set_option maxRecDepth 100000 in
theorem mtJxe99ae_doubleToLongBits_ccdee (l : Launch) (ad : (Nat → Nat) × (Nat → Nat)) (dC : Nat → ClassId) (dI : Nat → Nat → Nat) (cy : Nat → ClassId) (sz : Nat) (v0 : UInt64) {post : Int64 → Prop} (h : wJxe99ae_doubleToLongBits_ccdee post v0) : xMl l yJxe99ae_doubleToLongBits_ccdee wsJxe99ae_doubleToLongBits_ccdee ({ frames := 1, cells := 0, slots := 0, locals := 30 } : Room) ad (dC, dI) vwCl (xT cy) [.double v0] [] sz (fun (r : Int64) (_ : Unit) => post r) (fun (_ : Unit) w => w = []) 0 0 := by
  unfold xMl
  refine va_MetF (cc := cJxe99ae_doubleToLongBits_ccdee) (maxL := 2) (ret := (some .long)) (by decide +kernel) rfl ?_
  intro p e s m args below meth c s₁ B hml hv
  obtain ⟨rfl, hsz, hP, hK, hD0, hE⟩ := hv
  have hx := B.exec
  have hb := B.bytes
  have hr := B.returns
  have hts := atoms_spec (ws := wsJxe99ae_doubleToLongBits_ccdee) B.pre
  have hown : s.vm.findClass RJxe99ae = some m.cls := findClass_of_methodNamed B.named
  have hlocks := B.notSynchronized
  subst hsz
  have hD := hD0.self (sz := s.heap.size)
  generalize hAe : va_A [] s.heap.size = A at hD hE ⊢
  have hA : ∀ q : Nat, s.heap.size ≤ q → A q := fun q h => by rw [← hAe]; exact Or.inr h
  have hS : va_S A s.heap s.heap [] := va_S.rf
  have hl := lv_entry ([.double v0]) (n := 2) (Nat.le_of_ble_eq_true rfl)
  rw [lg_entry_eq]
  generalize (lg_sl ([.double v0]) ++ List.replicate (2 - (lg_sl ([.double v0])).length) Slot.unset).toArray = ls at hl ⊢
  have hl : lv_has ls 2 [(0, .double v0)] := hl
  generalize hQ : MQ below _ _ s _ _ _ = Q
  generalize ([.double v0] : List Value).toArray = args at hts hQ ⊢
  clear B hD0 hAe
  refine lv_dload_n hx hb dJxe99ae_doubleToLongBits_ccdee_0 rfl (lv_at hl 0 rfl) ?_
  refine xSi0 (As := [.double v0]) (rest := []) ⟨hx, hb, hml, hown, hts⟩ (mtJxe99ae_isNaN_b9ae7 l ad dC dI cy  _  v0 h) (va_cwS 1 hts gJxe99ae_doubleToLongBits_ccdee_Jxe99ae_isNaN_b9ae7 rfl rfl rfl qJxe99ae_isNaN_b9ae7.2 ⟨Nat.le_of_ble_eq_true rfl, Nat.le_of_ble_eq_true rfl⟩) hE hK hP hD hS hA [] rfl (by decide) rfl hl.1 rfl (Nat.le_of_ble_eq_true rfl) dJxe99ae_doubleToLongBits_ccdee_1 ⟨Nat.le_refl _, Nat.le_refl _⟩ (fun r1 H locs h hP hS => ?_)
  try dsimp only at h
  refine lv_if_ne (tgt := 12) hx hb dJxe99ae_doubleToLongBits_ccdee_4 (by decide) (fun c_1 => ?_) (fun c_1 => ?_)
  · replace h := h.2 c_1
    refine lv_ldc2 hx hb hown (hts _ kJxe99ae_doubleToLongBits_ccdee_0) dJxe99ae_doubleToLongBits_ccdee_12 ?_
    rw [← hQ]
    exact W.lret (v := (9221120237041090560 : Int64)) hx hb hr (fun t ht hW => ⟨⟨(9221120237041090560 : Int64), (), rfl, h, x_end (w1 := []) hP hD hK [] rfl (by decide) rfl ht hW⟩, hS.F ht⟩) hS.2.2 dJxe99ae_doubleToLongBits_ccdee_15
  · replace h := h.1 c_1
    refine lv_dload_n hx hb dJxe99ae_doubleToLongBits_ccdee_7 rfl (lv_at hl 0 rfl) ?_
    refine vn_d2l hx hb (hml.trans hl.1.symm) hown (hts _ kJxe99ae_doubleToLongBits_ccdee_1) (hts _ kJxe99ae_doubleToLongBits_ccdee_2) (hts _ kJxe99ae_doubleToLongBits_ccdee_3) (hts _ kJxe99ae_doubleToLongBits_ccdee_4) (Nat.le_of_ble_eq_true rfl) (Nat.le_of_ble_eq_true rfl) dJxe99ae_doubleToLongBits_ccdee_8 ?_
    rw [← hQ]
    exact W.lret (v := (v0).toInt64) hx hb hr (fun t ht hW => ⟨⟨(v0).toInt64, (), rfl, h, x_end (w1 := []) hP hD hK [] rfl (by decide) rfl ht hW⟩, hS.F ht⟩) hS.2.2 dJxe99ae_doubleToLongBits_ccdee_11

theorem qJxf58ca_floatToIntBits_5c35a : yJxf58ca_floatToIntBits_5c35a.cls = RJxf58ca ∧ yJxf58ca_floatToIntBits_5c35a.cls ≠ "java/lang/invoke/MethodHandle" ∧ yJxf58ca_floatToIntBits_5c35a.cls ≠ "java/lang/invoke/VarHandle" ∧ (parseMethodDescriptor yJxf58ca_floatToIntBits_5c35a.desc).map (fun d => d.parameters.length) = some 1 := by decide +kernel
def wX7_share_10 (t_all : Nat → Int32) (post : Int32 → Int32 → Prop) (t_raised v1 k0 : Int32) : Prop :=
  (k0 = (0 : Int32) → post (0 : Int32) t_raised) ∧ (¬ k0 = (0 : Int32) → vp_in ((64 : Int32) + v1) 604 ∧ vp_in ((4 : Int32) + v1) 604 ∧ vf_n32 (FP.fdiv (FP.i2f (t_all (((64 : Int32) + v1)).toNatClampNeg)) (FP.i2f (t_all (((4 : Int32) + v1)).toNatClampNeg))) ∧ wJxf58ca_floatToIntBits_5c35a (fun r39 => post r39 t_raised) (FP.fdiv (FP.i2f (t_all (((64 : Int32) + v1)).toNatClampNeg)) (FP.i2f (t_all (((4 : Int32) + v1)).toNatClampNeg))))
/-- KnapsackCoreModel.share(I)I -/
def wX7_share (t_all : Nat → Int32) (post : Int32 → Int32 → Prop) (t_raised v1 : Int32) : Prop :=
  wX7_isItem t_all (fun r7 => wX7_share_10 t_all post (0 : Int32) v1 r7) v1
theorem kX7_share_0 : Cond.fieldLink RX7 7 "KnapsackCoreModel" "all" "[I" ∈ wsX7_share := (List.mem_cons_of_mem _ (List.mem_append_left _ (List.mem_of_getElem? (i := 1) rfl)))
theorem kX7_share_1 : Cond.fieldLink RX7 58 "KnapsackCoreModel" "raised" "I" ∈ wsX7_share := (List.mem_cons_of_mem _ (List.mem_append_left _ (List.mem_of_getElem? (i := 0) rfl)))
theorem iX7_share_X7 : ∀ w ∈ u_ws RX7 TX7 41, w ∈ wsX7_share := fun w h => (List.mem_cons_of_mem _ (List.mem_append_right _ h))
set_option maxHeartbeats 4000000 in
set_option maxRecDepth 100000 in
theorem mtX7_share (l : Launch) (ad : (Nat → Nat) × (Nat → Nat)) (dC : Nat → ClassId) (dI : Nat → Nat → Nat) (cy : Nat → ClassId) (a_t a_t_all a_t_text a_t_saved a_t_undone a_t_told a_t_orderOf a_t_placeOf a_t_w a_t_p a_t_setBits a_t_setWeight a_t_setProfit a_t_nextBits a_t_nextWeight a_t_nextProfit : Nat) (sz : Nat) (t_raised t_undos t_reached t_length t_begin t_sort : Int32) (t_value t_word : Int64) (t_wrongAt t_badAt t_bad : Int32) (t_toldWeight t_toldProfit : Int64) (t_many : Int32) (t_room : Int64) (t_breakAt : Int32) (t_breakWeight t_breakProfit : Int64) (t_from t_to t_made t_sets : Int32) (t_bestBits t_bestWeight t_bestProfit : Int64) (t_nexts : Int32) (t_all : Nat → Int32) (v1 : Int32) {post : Int32 → Int32 → Prop} (h : wX7_share t_all post t_raised v1) : xMi l yX7_share wsX7_share ({ frames := 2, cells := 0, slots := 0, locals := 50 } : Room) ad (dC, dI) vwCl (xT cy) [.ref a_t, .int v1] [(a_t, .inr (7, [.int t_raised, .ref a_t_all, .ref a_t_text, .ref a_t_saved, .ref a_t_undone, .int t_undos, .int t_reached, .int t_length, .int t_begin, .int t_sort, .long t_value, .long t_word, .int t_wrongAt, .int t_badAt, .int t_bad, .ref a_t_told, .long t_toldWeight, .long t_toldProfit, .int t_many, .long t_room, .ref a_t_orderOf, .ref a_t_placeOf, .ref a_t_w, .ref a_t_p, .int t_breakAt, .long t_breakWeight, .long t_breakProfit, .int t_from, .int t_to, .int t_made, .int t_sets, .ref a_t_setBits, .ref a_t_setWeight, .ref a_t_setProfit, .long t_bestBits, .long t_bestWeight, .long t_bestProfit, .int t_nexts, .ref a_t_nextBits, .ref a_t_nextWeight, .ref a_t_nextProfit])), (a_t_all, .inl (cy 0, 604, .inl t_all))] sz (fun (r : Int32) (u : Int32) => post r u) (fun (u : Int32) w => w = [(a_t, .inr (7, [.int u, .ref a_t_all, .ref a_t_text, .ref a_t_saved, .ref a_t_undone, .int t_undos, .int t_reached, .int t_length, .int t_begin, .int t_sort, .long t_value, .long t_word, .int t_wrongAt, .int t_badAt, .int t_bad, .ref a_t_told, .long t_toldWeight, .long t_toldProfit, .int t_many, .long t_room, .ref a_t_orderOf, .ref a_t_placeOf, .ref a_t_w, .ref a_t_p, .int t_breakAt, .long t_breakWeight, .long t_breakProfit, .int t_from, .int t_to, .int t_made, .int t_sets, .ref a_t_setBits, .ref a_t_setWeight, .ref a_t_setProfit, .long t_bestBits, .long t_bestWeight, .long t_bestProfit, .int t_nexts, .ref a_t_nextBits, .ref a_t_nextWeight, .ref a_t_nextProfit])), (a_t_all, .inl (cy 0, 604, .inl t_all))]) 0 0 := by
  unfold xMi
  refine Met.ofW (cc := cX7_share) (maxL := 4) (ret := (some .int)) (by decide +kernel) rfl ?_
  intro p e s m args below meth c s₁ B hml hv
  obtain ⟨rfl, hsz, hP, hK, hD0, hE⟩ := hv
  have hx := B.exec
  have hb := B.bytes
  have hr := B.returns
  have hts := atoms_spec (ws := wsX7_share) B.pre
  have hown : s.vm.findClass RX7 = some m.cls := findClass_of_methodNamed B.named
  have hlocks := B.notSynchronized
  subst hsz
  have hD := hD0.self (sz := s.heap.size)
  generalize hAe : va_A [(a_t, .inr (7, [.int t_raised, .ref a_t_all, .ref a_t_text, .ref a_t_saved, .ref a_t_undone, .int t_undos, .int t_reached, .int t_length, .int t_begin, .int t_sort, .long t_value, .long t_word, .int t_wrongAt, .int t_badAt, .int t_bad, .ref a_t_told, .long t_toldWeight, .long t_toldProfit, .int t_many, .long t_room, .ref a_t_orderOf, .ref a_t_placeOf, .ref a_t_w, .ref a_t_p, .int t_breakAt, .long t_breakWeight, .long t_breakProfit, .int t_from, .int t_to, .int t_made, .int t_sets, .ref a_t_setBits, .ref a_t_setWeight, .ref a_t_setProfit, .long t_bestBits, .long t_bestWeight, .long t_bestProfit, .int t_nexts, .ref a_t_nextBits, .ref a_t_nextWeight, .ref a_t_nextProfit])), (a_t_all, .inl (cy 0, 604, .inl t_all))] s.heap.size = A at hD hE ⊢
  have hA : ∀ q : Nat, s.heap.size ≤ q → A q := fun q h => by rw [← hAe]; exact Or.inr h
  have hS : va_S A s.heap s.heap [] := va_S.rf
  have hl := lv_entry ([.ref a_t, .int v1]) (n := 4) (Nat.le_of_ble_eq_true rfl)
  rw [lg_entry_eq]
  generalize (lg_sl ([.ref a_t, .int v1]) ++ List.replicate (4 - (lg_sl ([.ref a_t, .int v1])).length) Slot.unset).toArray = ls at hl ⊢
  have hl : lv_has ls 4 [(0, .ref a_t), (1, .int v1)] := hl
  generalize hQ : MQ below _ _ s _ _ _ = Q
  generalize ([.ref a_t, .int v1] : List Value).toArray = args at hts hQ ⊢
  clear B hD0 hAe
  refine lv_aload_n hx hb dX7_share_0 rfl (lv_at hl 0 rfl) ?_
  refine lv_iconst (v := 0) hx hb dX7_share_1 (by decide) ?_
  refine va_put (D := (dC, dI)) (ci := 7) (v := .int (0 : Int32)) (C := RX7) (T := TX7) (N := 41) hx hb hts iX7_share_X7 tyX7 tyX7_ok nmX7 hown hK hP hD hS 0 rfl rfl 0 (Nat.le_of_ble_eq_true rfl) (hts _ kX7_share_1) (fun _ h9 => h9) rfl (tyX7_ok 0 (Nat.le_of_ble_eq_true rfl)) rfl rfl (Nat.le_of_ble_eq_true rfl) dX7_share_2 (fun H locs hP hD hS => ?_)
  have hP : va_P (dC, dI) vwCl [(a_t, .inr (7, [.int (0 : Int32), .ref a_t_all, .ref a_t_text, .ref a_t_saved, .ref a_t_undone, .int t_undos, .int t_reached, .int t_length, .int t_begin, .int t_sort, .long t_value, .long t_word, .int t_wrongAt, .int t_badAt, .int t_bad, .ref a_t_told, .long t_toldWeight, .long t_toldProfit, .int t_many, .long t_room, .ref a_t_orderOf, .ref a_t_placeOf, .ref a_t_w, .ref a_t_p, .int t_breakAt, .long t_breakWeight, .long t_breakProfit, .int t_from, .int t_to, .int t_made, .int t_sets, .ref a_t_setBits, .ref a_t_setWeight, .ref a_t_setProfit, .long t_bestBits, .long t_bestWeight, .long t_bestProfit, .int t_nexts, .ref a_t_nextBits, .ref a_t_nextWeight, .ref a_t_nextProfit])), (a_t_all, .inl (cy 0, 604, .inl t_all))] H := hP
  have hD : va_D A [(a_t, .inr (7, [.int (0 : Int32), .ref a_t_all, .ref a_t_text, .ref a_t_saved, .ref a_t_undone, .int t_undos, .int t_reached, .int t_length, .int t_begin, .int t_sort, .long t_value, .long t_word, .int t_wrongAt, .int t_badAt, .int t_bad, .ref a_t_told, .long t_toldWeight, .long t_toldProfit, .int t_many, .long t_room, .ref a_t_orderOf, .ref a_t_placeOf, .ref a_t_w, .ref a_t_p, .int t_breakAt, .long t_breakWeight, .long t_breakProfit, .int t_from, .int t_to, .int t_made, .int t_sets, .ref a_t_setBits, .ref a_t_setWeight, .ref a_t_setProfit, .long t_bestBits, .long t_bestWeight, .long t_bestProfit, .int t_nexts, .ref a_t_nextBits, .ref a_t_nextWeight, .ref a_t_nextProfit])), (a_t_all, .inl (cy 0, 604, .inl t_all))] := hD
  refine lv_aload_n hx hb dX7_share_5 rfl (lv_at hl 0 rfl) ?_
  refine lv_iload_n hx hb dX7_share_6 rfl (lv_at hl 1 rfl) ?_
  refine xVi0 (As := [.int v1]) (rest := []) ⟨hx, hb, hml, hown, hts⟩ (mtX7_isItem l ad dC dI cy a_t a_t_all a_t_text a_t_saved a_t_undone a_t_told a_t_orderOf a_t_placeOf a_t_w a_t_p a_t_setBits a_t_setWeight a_t_setProfit a_t_nextBits a_t_nextWeight a_t_nextProfit _ (0 : Int32) t_undos t_reached t_length t_begin t_sort t_value t_word t_wrongAt t_badAt t_bad t_toldWeight t_toldProfit t_many t_room t_breakAt t_breakWeight t_breakProfit t_from t_to t_made t_sets t_bestBits t_bestWeight t_bestProfit t_nexts t_all v1 h) (cwV 1 hts gX7_share_X7_isItem rfl rfl rfl qX7_isItem ⟨Nat.le_of_ble_eq_true rfl, Nat.le_of_ble_eq_true rfl⟩) hE hK hP hD hS hA 7 0 rfl rfl rfl [0, 1] rfl (by decide) rfl hl.1 rfl (Nat.le_of_ble_eq_true rfl) dX7_share_7 ⟨Nat.le_refl _, Nat.le_refl _⟩ (fun r7 H locs h hP hS => ?_)
  try dsimp only at h
  refine lv_if_ne (tgt := 15) hx hb dX7_share_10 (by decide) (fun c_1 => ?_) (fun c_1 => ?_)
  · replace h := h.2 c_1
    refine lv_aload_n hx hb dX7_share_15 rfl (lv_at hl 0 rfl) ?_
    refine va_get (D := (dC, dI)) (ci := 7) (v := .ref a_t_all) (C := RX7) (T := TX7) (N := 41) hx hb hts iX7_share_X7 hown hK hP 0 rfl rfl 1 (Nat.le_of_ble_eq_true rfl) (hts _ kX7_share_0) (fun _ h9 => h9) rfl dX7_share_16 ?_
    refine lv_bipush (v := 64) hx hb dX7_share_19 (by decide) ?_
    refine lv_iload_n hx hb dX7_share_21 rfl (lv_at hl 1 rfl) ?_
    refine lv_iadd hx hb dX7_share_22 ?_
    refine va_iald (D := (dC, dI)) hx hb hK hP 1 0 rfl rfl h.1 dX7_share_23 ?_
    replace h := h.2
    refine lv_i2f hx hb dX7_share_24 ?_
    refine lv_fstore_n (lv' := [(2, .float (FP.i2f (t_all (((64 : Int32) + v1)).toNatClampNeg))), (0, .ref a_t), (1, .int v1)]) hx hb dX7_share_25 rfl hl (by decide) rfl (fun ls hl => ?_)
    refine lv_aload_n hx hb dX7_share_26 rfl (lv_at hl 1 rfl) ?_
    refine va_get (D := (dC, dI)) (ci := 7) (v := .ref a_t_all) (C := RX7) (T := TX7) (N := 41) hx hb hts iX7_share_X7 hown hK hP 0 rfl rfl 1 (Nat.le_of_ble_eq_true rfl) (hts _ kX7_share_0) (fun _ h9 => h9) rfl dX7_share_27 ?_
    refine lv_iconst (v := 4) hx hb dX7_share_30 (by decide) ?_
    refine lv_iload_n hx hb dX7_share_31 rfl (lv_at hl 2 rfl) ?_
    refine lv_iadd hx hb dX7_share_32 ?_
    refine va_iald (D := (dC, dI)) hx hb hK hP 1 0 rfl rfl h.1 dX7_share_33 ?_
    replace h := h.2
    refine lv_i2f hx hb dX7_share_34 ?_
    refine lv_fstore_n (lv' := [(3, .float (FP.i2f (t_all (((4 : Int32) + v1)).toNatClampNeg))), (2, .float (FP.i2f (t_all (((64 : Int32) + v1)).toNatClampNeg))), (0, .ref a_t), (1, .int v1)]) hx hb dX7_share_35 rfl hl (by decide) rfl (fun ls hl => ?_)
    refine lv_fload_n hx hb dX7_share_36 rfl (lv_at hl 1 rfl) ?_
    refine lv_fload_n hx hb dX7_share_37 rfl (lv_at hl 0 rfl) ?_
    refine lv_fdiv hx hb dX7_share_38 h.1 ?_
    replace h := h.2
    refine xSi0 (As := [.float (FP.fdiv (FP.i2f (t_all (((64 : Int32) + v1)).toNatClampNeg)) (FP.i2f (t_all (((4 : Int32) + v1)).toNatClampNeg)))]) (rest := []) ⟨hx, hb, hml, hown, hts⟩ (mtJxf58ca_floatToIntBits_5c35a l ad dC dI cy  _  (FP.fdiv (FP.i2f (t_all (((64 : Int32) + v1)).toNatClampNeg)) (FP.i2f (t_all (((4 : Int32) + v1)).toNatClampNeg))) h) (va_cwS 1 hts gX7_share_Jxf58ca_floatToIntBits_5c35a rfl rfl rfl qJxf58ca_floatToIntBits_5c35a.2 ⟨Nat.le_of_ble_eq_true rfl, Nat.le_of_ble_eq_true rfl⟩) hE hK hP hD hS hA [] rfl (by decide) rfl hl.1 rfl (Nat.le_of_ble_eq_true rfl) dX7_share_39 ⟨Nat.le_refl _, Nat.le_refl _⟩ (fun r39 H locs h hP hS => ?_)
    try dsimp only at h
    rw [← hQ]
    exact W.iret (v := r39) hx hb hr (fun t ht hW => ⟨⟨r39, (0 : Int32), rfl, (by dsimp only; exact h), x_end (w1 := [(a_t, .inr (7, [.int (0 : Int32), .ref a_t_all, .ref a_t_text, .ref a_t_saved, .ref a_t_undone, .int t_undos, .int t_reached, .int t_length, .int t_begin, .int t_sort, .long t_value, .long t_word, .int t_wrongAt, .int t_badAt, .int t_bad, .ref a_t_told, .long t_toldWeight, .long t_toldProfit, .int t_many, .long t_room, .ref a_t_orderOf, .ref a_t_placeOf, .ref a_t_w, .ref a_t_p, .int t_breakAt, .long t_breakWeight, .long t_breakProfit, .int t_from, .int t_to, .int t_made, .int t_sets, .ref a_t_setBits, .ref a_t_setWeight, .ref a_t_setProfit, .long t_bestBits, .long t_bestWeight, .long t_bestProfit, .int t_nexts, .ref a_t_nextBits, .ref a_t_nextWeight, .ref a_t_nextProfit])), (a_t_all, .inl (cy 0, 604, .inl t_all))]) hP hD hK [0, 1] rfl (by decide) (by first | exact rfl | (dsimp only; exact rfl)) ht hW⟩, hS.F ht⟩) hS.2.2 dX7_share_42
  · replace h := h.1 c_1
    refine lv_iconst (v := 0) hx hb dX7_share_13 (by decide) ?_
    rw [← hQ]
    exact W.iret (v := (0 : Int32)) hx hb hr (fun t ht hW => ⟨⟨(0 : Int32), (0 : Int32), rfl, (by dsimp only; exact h), x_end (w1 := [(a_t, .inr (7, [.int (0 : Int32), .ref a_t_all, .ref a_t_text, .ref a_t_saved, .ref a_t_undone, .int t_undos, .int t_reached, .int t_length, .int t_begin, .int t_sort, .long t_value, .long t_word, .int t_wrongAt, .int t_badAt, .int t_bad, .ref a_t_told, .long t_toldWeight, .long t_toldProfit, .int t_many, .long t_room, .ref a_t_orderOf, .ref a_t_placeOf, .ref a_t_w, .ref a_t_p, .int t_breakAt, .long t_breakWeight, .long t_breakProfit, .int t_from, .int t_to, .int t_made, .int t_sets, .ref a_t_setBits, .ref a_t_setWeight, .ref a_t_setProfit, .long t_bestBits, .long t_bestWeight, .long t_bestProfit, .int t_nexts, .ref a_t_nextBits, .ref a_t_nextWeight, .ref a_t_nextProfit])), (a_t_all, .inl (cy 0, 604, .inl t_all))]) hP hD hK [0, 1] rfl (by decide) (by first | exact rfl | (dsimp only; exact rfl)) ht hW⟩, hS.F ht⟩) hS.2.2 dX7_share_14

theorem qJxe99ae_doubleToLongBits_ccdee : yJxe99ae_doubleToLongBits_ccdee.cls = RJxe99ae ∧ yJxe99ae_doubleToLongBits_ccdee.cls ≠ "java/lang/invoke/MethodHandle" ∧ yJxe99ae_doubleToLongBits_ccdee.cls ≠ "java/lang/invoke/VarHandle" ∧ (parseMethodDescriptor yJxe99ae_doubleToLongBits_ccdee.desc).map (fun d => d.parameters.length) = some 1 := by decide +kernel
def wX7_linear_13 (t_all : Nat → Int32) (post : Int64 → Int32 → Int32 → Int64 → Int32 → Int64 → Int64 → Int32 → Int32 → Int32 → Int32 → Int64 → Int64 → Int64 → Int32 → (Nat → Int32) → (Nat → Int32) → (Nat → Int64) → (Nat → Int64) → (Nat → Int64) → (Nat → Int64) → (Nat → Int64) → (Nat → Int64) → (Nat → Int64) → (Nat → Int64) → Prop) (t_raised t_many : Int32) (t_room : Int64) (t_breakAt : Int32) (t_breakWeight t_breakProfit : Int64) (t_from t_to t_made t_sets : Int32) (t_bestBits t_bestWeight t_bestProfit : Int64) (t_nexts : Int32) (t_orderOf t_placeOf : Nat → Int32) (t_w t_p t_setBits t_setWeight t_setProfit t_nextProfit t_nextWeight t_nextBits : Nat → Int64) (k0 : UInt64) : Prop :=
  wJxe99ae_doubleToLongBits_ccdee (fun r13 => post r13 t_raised t_many t_room t_breakAt t_breakWeight t_breakProfit t_from t_to t_made t_sets t_bestBits t_bestWeight t_bestProfit t_nexts t_orderOf t_placeOf t_w t_p t_setBits t_setWeight t_setProfit t_nextProfit t_nextWeight t_nextBits) k0
def wX7_linear_9 (t_all : Nat → Int32) (post : Int64 → Int32 → Int32 → Int64 → Int32 → Int64 → Int64 → Int32 → Int32 → Int32 → Int32 → Int64 → Int64 → Int64 → Int32 → (Nat → Int32) → (Nat → Int32) → (Nat → Int64) → (Nat → Int64) → (Nat → Int64) → (Nat → Int64) → (Nat → Int64) → (Nat → Int64) → (Nat → Int64) → (Nat → Int64) → Prop) (t_raised t_many : Int32) (t_room : Int64) (t_breakAt : Int32) (t_breakWeight t_breakProfit : Int64) (t_from t_to t_made t_sets : Int32) (t_bestBits t_bestWeight t_bestProfit : Int64) (t_nexts : Int32) (t_orderOf t_placeOf : Nat → Int32) (t_w t_p t_setBits t_setWeight t_setProfit t_nextProfit t_nextWeight t_nextBits : Nat → Int64) : Prop :=
  wX7_linearNow t_many t_room t_breakAt t_breakWeight t_breakProfit t_p t_w (fun r10 => wX7_linear_13 t_all post t_raised t_many t_room t_breakAt t_breakWeight t_breakProfit t_from t_to t_made t_sets t_bestBits t_bestWeight t_bestProfit t_nexts t_orderOf t_placeOf t_w t_p t_setBits t_setWeight t_setProfit t_nextProfit t_nextWeight t_nextBits r10)
/-- KnapsackCoreModel.linear()J -/
def wX7_linear (t_all : Nat → Int32) (post : Int64 → Int32 → Int32 → Int64 → Int32 → Int64 → Int64 → Int32 → Int32 → Int32 → Int32 → Int64 → Int64 → Int64 → Int32 → (Nat → Int32) → (Nat → Int32) → (Nat → Int64) → (Nat → Int64) → (Nat → Int64) → (Nat → Int64) → (Nat → Int64) → (Nat → Int64) → (Nat → Int64) → (Nat → Int64) → Prop) (t_raised t_many : Int32) (t_room : Int64) (t_breakAt : Int32) (t_breakWeight t_breakProfit : Int64) (t_from t_to t_made t_sets : Int32) (t_bestBits t_bestWeight t_bestProfit : Int64) (t_nexts : Int32) (t_orderOf t_placeOf : Nat → Int32) (t_w t_p t_setBits t_setWeight t_setProfit t_nextProfit t_nextWeight t_nextBits : Nat → Int64) : Prop :=
  wX7_lays t_all (fun m6_0 m6_1 m6_2 m6_3 m6_4 m6_5 m6_6 m6_7 m6_8 m6_9 m6_10 m6_11 m6_12 m6_13 m6_14 m6_15 m6_16 m6_17 m6_18 m6_19 m6_20 m6_21 m6_22 => wX7_linear_9 t_all post (0 : Int32) m6_0 m6_1 m6_2 m6_3 m6_4 m6_5 m6_6 m6_7 m6_8 m6_9 m6_10 m6_11 m6_12 m6_13 m6_14 m6_15 m6_16 m6_17 m6_18 m6_19 m6_20 m6_21 m6_22) t_many t_room t_breakAt t_breakWeight t_breakProfit t_from t_to t_made t_sets t_bestBits t_bestWeight t_bestProfit t_nexts t_orderOf t_placeOf t_w t_p t_setBits t_setWeight t_setProfit t_nextProfit t_nextWeight t_nextBits
theorem kX7_linear_0 : Cond.fieldLink RX7 58 "KnapsackCoreModel" "raised" "I" ∈ wsX7_linear := (List.mem_cons_of_mem _ (List.mem_append_left _ (List.mem_append_left _ (List.mem_of_getElem? (i := 0) rfl))))
theorem iX7_linear_X7 : ∀ w ∈ u_ws RX7 TX7 41, w ∈ wsX7_linear := fun w h => (List.mem_cons_of_mem _ (List.mem_append_right _ h))
set_option maxHeartbeats 4000000 in
set_option maxRecDepth 100000 in
theorem mtX7_linear (l : Launch) (ad : (Nat → Nat) × (Nat → Nat)) (dC : Nat → ClassId) (dI : Nat → Nat → Nat) (cy : Nat → ClassId) (a_t a_t_all a_t_text a_t_saved a_t_undone a_t_told a_t_orderOf a_t_placeOf a_t_w a_t_p a_t_setBits a_t_setWeight a_t_setProfit a_t_nextBits a_t_nextWeight a_t_nextProfit : Nat) (sz : Nat) (t_raised t_undos t_reached t_length t_begin t_sort : Int32) (t_value t_word : Int64) (t_wrongAt t_badAt t_bad : Int32) (t_toldWeight t_toldProfit : Int64) (t_many : Int32) (t_room : Int64) (t_breakAt : Int32) (t_breakWeight t_breakProfit : Int64) (t_from t_to t_made t_sets : Int32) (t_bestBits t_bestWeight t_bestProfit : Int64) (t_nexts : Int32) (t_all t_orderOf t_placeOf : Nat → Int32) (t_w t_p t_setBits t_setWeight t_setProfit t_nextProfit t_nextWeight t_nextBits : Nat → Int64) {post : Int64 → Int32 → Int32 → Int64 → Int32 → Int64 → Int64 → Int32 → Int32 → Int32 → Int32 → Int64 → Int64 → Int64 → Int32 → (Nat → Int32) → (Nat → Int32) → (Nat → Int64) → (Nat → Int64) → (Nat → Int64) → (Nat → Int64) → (Nat → Int64) → (Nat → Int64) → (Nat → Int64) → (Nat → Int64) → Prop} (h : wX7_linear t_all post t_raised t_many t_room t_breakAt t_breakWeight t_breakProfit t_from t_to t_made t_sets t_bestBits t_bestWeight t_bestProfit t_nexts t_orderOf t_placeOf t_w t_p t_setBits t_setWeight t_setProfit t_nextProfit t_nextWeight t_nextBits) : xMl l yX7_linear wsX7_linear ({ frames := 5, cells := 0, slots := 0, locals := 126 } : Room) ad (dC, dI) vwCl (xT cy) [.ref a_t] [(a_t, .inr (7, [.int t_raised, .ref a_t_all, .ref a_t_text, .ref a_t_saved, .ref a_t_undone, .int t_undos, .int t_reached, .int t_length, .int t_begin, .int t_sort, .long t_value, .long t_word, .int t_wrongAt, .int t_badAt, .int t_bad, .ref a_t_told, .long t_toldWeight, .long t_toldProfit, .int t_many, .long t_room, .ref a_t_orderOf, .ref a_t_placeOf, .ref a_t_w, .ref a_t_p, .int t_breakAt, .long t_breakWeight, .long t_breakProfit, .int t_from, .int t_to, .int t_made, .int t_sets, .ref a_t_setBits, .ref a_t_setWeight, .ref a_t_setProfit, .long t_bestBits, .long t_bestWeight, .long t_bestProfit, .int t_nexts, .ref a_t_nextBits, .ref a_t_nextWeight, .ref a_t_nextProfit])), (a_t_all, .inl (cy 0, 604, .inl t_all)), (a_t_orderOf, .inl (cy 0, 60, .inl t_orderOf)), (a_t_placeOf, .inl (cy 0, 60, .inl t_placeOf)), (a_t_w, .inl (cy 1, 60, .inr (.inl t_w))), (a_t_p, .inl (cy 1, 60, .inr (.inl t_p))), (a_t_setBits, .inl (cy 1, 2002, .inr (.inl t_setBits))), (a_t_setWeight, .inl (cy 1, 2002, .inr (.inl t_setWeight))), (a_t_setProfit, .inl (cy 1, 2002, .inr (.inl t_setProfit))), (a_t_nextProfit, .inl (cy 1, 2002, .inr (.inl t_nextProfit))), (a_t_nextWeight, .inl (cy 1, 2002, .inr (.inl t_nextWeight))), (a_t_nextBits, .inl (cy 1, 2002, .inr (.inl t_nextBits)))] sz (fun (r : Int64) (u : Int32 × Int32 × Int64 × Int32 × Int64 × Int64 × Int32 × Int32 × Int32 × Int32 × Int64 × Int64 × Int64 × Int32 × (Nat → Int32) × (Nat → Int32) × (Nat → Int64) × (Nat → Int64) × (Nat → Int64) × (Nat → Int64) × (Nat → Int64) × (Nat → Int64) × (Nat → Int64) × (Nat → Int64)) => post r u.1 u.2.1 u.2.2.1 u.2.2.2.1 u.2.2.2.2.1 u.2.2.2.2.2.1 u.2.2.2.2.2.2.1 u.2.2.2.2.2.2.2.1 u.2.2.2.2.2.2.2.2.1 u.2.2.2.2.2.2.2.2.2.1 u.2.2.2.2.2.2.2.2.2.2.1 u.2.2.2.2.2.2.2.2.2.2.2.1 u.2.2.2.2.2.2.2.2.2.2.2.2.1 u.2.2.2.2.2.2.2.2.2.2.2.2.2.1 u.2.2.2.2.2.2.2.2.2.2.2.2.2.2.1 u.2.2.2.2.2.2.2.2.2.2.2.2.2.2.2.1 u.2.2.2.2.2.2.2.2.2.2.2.2.2.2.2.2.1 u.2.2.2.2.2.2.2.2.2.2.2.2.2.2.2.2.2.1 u.2.2.2.2.2.2.2.2.2.2.2.2.2.2.2.2.2.2.1 u.2.2.2.2.2.2.2.2.2.2.2.2.2.2.2.2.2.2.2.1 u.2.2.2.2.2.2.2.2.2.2.2.2.2.2.2.2.2.2.2.2.1 u.2.2.2.2.2.2.2.2.2.2.2.2.2.2.2.2.2.2.2.2.2.1 u.2.2.2.2.2.2.2.2.2.2.2.2.2.2.2.2.2.2.2.2.2.2.1 u.2.2.2.2.2.2.2.2.2.2.2.2.2.2.2.2.2.2.2.2.2.2.2) (fun (u : Int32 × Int32 × Int64 × Int32 × Int64 × Int64 × Int32 × Int32 × Int32 × Int32 × Int64 × Int64 × Int64 × Int32 × (Nat → Int32) × (Nat → Int32) × (Nat → Int64) × (Nat → Int64) × (Nat → Int64) × (Nat → Int64) × (Nat → Int64) × (Nat → Int64) × (Nat → Int64) × (Nat → Int64)) w => w = [(a_t, .inr (7, [.int u.1, .ref a_t_all, .ref a_t_text, .ref a_t_saved, .ref a_t_undone, .int t_undos, .int t_reached, .int t_length, .int t_begin, .int t_sort, .long t_value, .long t_word, .int t_wrongAt, .int t_badAt, .int t_bad, .ref a_t_told, .long t_toldWeight, .long t_toldProfit, .int u.2.1, .long u.2.2.1, .ref a_t_orderOf, .ref a_t_placeOf, .ref a_t_w, .ref a_t_p, .int u.2.2.2.1, .long u.2.2.2.2.1, .long u.2.2.2.2.2.1, .int u.2.2.2.2.2.2.1, .int u.2.2.2.2.2.2.2.1, .int u.2.2.2.2.2.2.2.2.1, .int u.2.2.2.2.2.2.2.2.2.1, .ref a_t_setBits, .ref a_t_setWeight, .ref a_t_setProfit, .long u.2.2.2.2.2.2.2.2.2.2.1, .long u.2.2.2.2.2.2.2.2.2.2.2.1, .long u.2.2.2.2.2.2.2.2.2.2.2.2.1, .int u.2.2.2.2.2.2.2.2.2.2.2.2.2.1, .ref a_t_nextBits, .ref a_t_nextWeight, .ref a_t_nextProfit])), (a_t_all, .inl (cy 0, 604, .inl t_all)), (a_t_orderOf, .inl (cy 0, 60, .inl u.2.2.2.2.2.2.2.2.2.2.2.2.2.2.1)), (a_t_placeOf, .inl (cy 0, 60, .inl u.2.2.2.2.2.2.2.2.2.2.2.2.2.2.2.1)), (a_t_w, .inl (cy 1, 60, .inr (.inl u.2.2.2.2.2.2.2.2.2.2.2.2.2.2.2.2.1))), (a_t_p, .inl (cy 1, 60, .inr (.inl u.2.2.2.2.2.2.2.2.2.2.2.2.2.2.2.2.2.1))), (a_t_setBits, .inl (cy 1, 2002, .inr (.inl u.2.2.2.2.2.2.2.2.2.2.2.2.2.2.2.2.2.2.1))), (a_t_setWeight, .inl (cy 1, 2002, .inr (.inl u.2.2.2.2.2.2.2.2.2.2.2.2.2.2.2.2.2.2.2.1))), (a_t_setProfit, .inl (cy 1, 2002, .inr (.inl u.2.2.2.2.2.2.2.2.2.2.2.2.2.2.2.2.2.2.2.2.1))), (a_t_nextProfit, .inl (cy 1, 2002, .inr (.inl u.2.2.2.2.2.2.2.2.2.2.2.2.2.2.2.2.2.2.2.2.2.1))), (a_t_nextWeight, .inl (cy 1, 2002, .inr (.inl u.2.2.2.2.2.2.2.2.2.2.2.2.2.2.2.2.2.2.2.2.2.2.1))), (a_t_nextBits, .inl (cy 1, 2002, .inr (.inl u.2.2.2.2.2.2.2.2.2.2.2.2.2.2.2.2.2.2.2.2.2.2.2)))]) 0 0 := by
  unfold xMl
  refine Met.ofW (cc := cX7_linear) (maxL := 1) (ret := (some .long)) (by decide +kernel) rfl ?_
  intro p e s m args below meth c s₁ B hml hv
  obtain ⟨rfl, hsz, hP, hK, hD0, hE⟩ := hv
  have hx := B.exec
  have hb := B.bytes
  have hr := B.returns
  have hts := atoms_spec (ws := wsX7_linear) B.pre
  have hown : s.vm.findClass RX7 = some m.cls := findClass_of_methodNamed B.named
  have hlocks := B.notSynchronized
  subst hsz
  have hD := hD0.self (sz := s.heap.size)
  generalize hAe : va_A [(a_t, .inr (7, [.int t_raised, .ref a_t_all, .ref a_t_text, .ref a_t_saved, .ref a_t_undone, .int t_undos, .int t_reached, .int t_length, .int t_begin, .int t_sort, .long t_value, .long t_word, .int t_wrongAt, .int t_badAt, .int t_bad, .ref a_t_told, .long t_toldWeight, .long t_toldProfit, .int t_many, .long t_room, .ref a_t_orderOf, .ref a_t_placeOf, .ref a_t_w, .ref a_t_p, .int t_breakAt, .long t_breakWeight, .long t_breakProfit, .int t_from, .int t_to, .int t_made, .int t_sets, .ref a_t_setBits, .ref a_t_setWeight, .ref a_t_setProfit, .long t_bestBits, .long t_bestWeight, .long t_bestProfit, .int t_nexts, .ref a_t_nextBits, .ref a_t_nextWeight, .ref a_t_nextProfit])), (a_t_all, .inl (cy 0, 604, .inl t_all)), (a_t_orderOf, .inl (cy 0, 60, .inl t_orderOf)), (a_t_placeOf, .inl (cy 0, 60, .inl t_placeOf)), (a_t_w, .inl (cy 1, 60, .inr (.inl t_w))), (a_t_p, .inl (cy 1, 60, .inr (.inl t_p))), (a_t_setBits, .inl (cy 1, 2002, .inr (.inl t_setBits))), (a_t_setWeight, .inl (cy 1, 2002, .inr (.inl t_setWeight))), (a_t_setProfit, .inl (cy 1, 2002, .inr (.inl t_setProfit))), (a_t_nextProfit, .inl (cy 1, 2002, .inr (.inl t_nextProfit))), (a_t_nextWeight, .inl (cy 1, 2002, .inr (.inl t_nextWeight))), (a_t_nextBits, .inl (cy 1, 2002, .inr (.inl t_nextBits)))] s.heap.size = A at hD hE ⊢
  have hA : ∀ q : Nat, s.heap.size ≤ q → A q := fun q h => by rw [← hAe]; exact Or.inr h
  have hS : va_S A s.heap s.heap [] := va_S.rf
  have hl := lv_entry ([.ref a_t]) (n := 1) (Nat.le_of_ble_eq_true rfl)
  rw [lg_entry_eq]
  generalize (lg_sl ([.ref a_t]) ++ List.replicate (1 - (lg_sl ([.ref a_t])).length) Slot.unset).toArray = ls at hl ⊢
  have hl : lv_has ls 1 [(0, .ref a_t)] := hl
  generalize hQ : MQ below _ _ s _ _ _ = Q
  generalize ([.ref a_t] : List Value).toArray = args at hts hQ ⊢
  clear B hD0 hAe
  refine lv_aload_n hx hb dX7_linear_0 rfl (lv_at hl 0 rfl) ?_
  refine lv_iconst (v := 0) hx hb dX7_linear_1 (by decide) ?_
  refine va_put (D := (dC, dI)) (ci := 7) (v := .int (0 : Int32)) (C := RX7) (T := TX7) (N := 41) hx hb hts iX7_linear_X7 tyX7 tyX7_ok nmX7 hown hK hP hD hS 0 rfl rfl 0 (Nat.le_of_ble_eq_true rfl) (hts _ kX7_linear_0) (fun _ h9 => h9) rfl (tyX7_ok 0 (Nat.le_of_ble_eq_true rfl)) rfl rfl (Nat.le_of_ble_eq_true rfl) dX7_linear_2 (fun H locs hP hD hS => ?_)
  have hP : va_P (dC, dI) vwCl [(a_t, .inr (7, [.int (0 : Int32), .ref a_t_all, .ref a_t_text, .ref a_t_saved, .ref a_t_undone, .int t_undos, .int t_reached, .int t_length, .int t_begin, .int t_sort, .long t_value, .long t_word, .int t_wrongAt, .int t_badAt, .int t_bad, .ref a_t_told, .long t_toldWeight, .long t_toldProfit, .int t_many, .long t_room, .ref a_t_orderOf, .ref a_t_placeOf, .ref a_t_w, .ref a_t_p, .int t_breakAt, .long t_breakWeight, .long t_breakProfit, .int t_from, .int t_to, .int t_made, .int t_sets, .ref a_t_setBits, .ref a_t_setWeight, .ref a_t_setProfit, .long t_bestBits, .long t_bestWeight, .long t_bestProfit, .int t_nexts, .ref a_t_nextBits, .ref a_t_nextWeight, .ref a_t_nextProfit])), (a_t_all, .inl (cy 0, 604, .inl t_all)), (a_t_orderOf, .inl (cy 0, 60, .inl t_orderOf)), (a_t_placeOf, .inl (cy 0, 60, .inl t_placeOf)), (a_t_w, .inl (cy 1, 60, .inr (.inl t_w))), (a_t_p, .inl (cy 1, 60, .inr (.inl t_p))), (a_t_setBits, .inl (cy 1, 2002, .inr (.inl t_setBits))), (a_t_setWeight, .inl (cy 1, 2002, .inr (.inl t_setWeight))), (a_t_setProfit, .inl (cy 1, 2002, .inr (.inl t_setProfit))), (a_t_nextProfit, .inl (cy 1, 2002, .inr (.inl t_nextProfit))), (a_t_nextWeight, .inl (cy 1, 2002, .inr (.inl t_nextWeight))), (a_t_nextBits, .inl (cy 1, 2002, .inr (.inl t_nextBits)))] H := hP
  have hD : va_D A [(a_t, .inr (7, [.int (0 : Int32), .ref a_t_all, .ref a_t_text, .ref a_t_saved, .ref a_t_undone, .int t_undos, .int t_reached, .int t_length, .int t_begin, .int t_sort, .long t_value, .long t_word, .int t_wrongAt, .int t_badAt, .int t_bad, .ref a_t_told, .long t_toldWeight, .long t_toldProfit, .int t_many, .long t_room, .ref a_t_orderOf, .ref a_t_placeOf, .ref a_t_w, .ref a_t_p, .int t_breakAt, .long t_breakWeight, .long t_breakProfit, .int t_from, .int t_to, .int t_made, .int t_sets, .ref a_t_setBits, .ref a_t_setWeight, .ref a_t_setProfit, .long t_bestBits, .long t_bestWeight, .long t_bestProfit, .int t_nexts, .ref a_t_nextBits, .ref a_t_nextWeight, .ref a_t_nextProfit])), (a_t_all, .inl (cy 0, 604, .inl t_all)), (a_t_orderOf, .inl (cy 0, 60, .inl t_orderOf)), (a_t_placeOf, .inl (cy 0, 60, .inl t_placeOf)), (a_t_w, .inl (cy 1, 60, .inr (.inl t_w))), (a_t_p, .inl (cy 1, 60, .inr (.inl t_p))), (a_t_setBits, .inl (cy 1, 2002, .inr (.inl t_setBits))), (a_t_setWeight, .inl (cy 1, 2002, .inr (.inl t_setWeight))), (a_t_setProfit, .inl (cy 1, 2002, .inr (.inl t_setProfit))), (a_t_nextProfit, .inl (cy 1, 2002, .inr (.inl t_nextProfit))), (a_t_nextWeight, .inl (cy 1, 2002, .inr (.inl t_nextWeight))), (a_t_nextBits, .inl (cy 1, 2002, .inr (.inl t_nextBits)))] := hD
  refine lv_aload_n hx hb dX7_linear_5 rfl (lv_at hl 0 rfl) ?_
  refine xVv (wr := []) (As := []) (rest := []) ⟨hx, hb, hml, hown, hts⟩ (mtX7_lays l ad dC dI cy a_t a_t_all a_t_text a_t_saved a_t_undone a_t_told a_t_orderOf a_t_placeOf a_t_w a_t_p a_t_setBits a_t_setWeight a_t_setProfit a_t_nextBits a_t_nextWeight a_t_nextProfit _ (0 : Int32) t_undos t_reached t_length t_begin t_sort t_value t_word t_wrongAt t_badAt t_bad t_toldWeight t_toldProfit t_many t_room t_breakAt t_breakWeight t_breakProfit t_from t_to t_made t_sets t_bestBits t_bestWeight t_bestProfit t_nexts t_all t_orderOf t_placeOf t_w t_p t_setBits t_setWeight t_setProfit t_nextProfit t_nextWeight t_nextBits  h) (cwV 0 hts gX7_linear_X7_lays rfl rfl rfl qX7_lays ⟨Nat.le_of_ble_eq_true rfl, Nat.le_of_ble_eq_true rfl⟩) hE hK hP hD hS hA 7 0 rfl rfl rfl [0, 1, 2, 3, 4, 5, 6, 7, 8, 9, 10, 11] [] rfl rfl (by decide) (by decide) (by decide) rfl hl.1 rfl (Nat.le_of_ble_eq_true rfl) dX7_linear_6 ⟨Nat.le_refl _, Nat.le_refl _⟩ (fun u w1 H locs h hF hP hD hS => ?_)
  obtain ⟨m6_0, m6_1, m6_2, m6_3, m6_4, m6_5, m6_6, m6_7, m6_8, m6_9, m6_10, m6_11, m6_12, m6_13, m6_14, m6_15, m6_16, m6_17, m6_18, m6_19, m6_20, m6_21, m6_22⟩ := u
  try dsimp only at h
  replace hF : w1 = [(a_t, .inr (7, [.int (0 : Int32), .ref a_t_all, .ref a_t_text, .ref a_t_saved, .ref a_t_undone, .int t_undos, .int t_reached, .int t_length, .int t_begin, .int t_sort, .long t_value, .long t_word, .int t_wrongAt, .int t_badAt, .int t_bad, .ref a_t_told, .long t_toldWeight, .long t_toldProfit, .int m6_0, .long m6_1, .ref a_t_orderOf, .ref a_t_placeOf, .ref a_t_w, .ref a_t_p, .int m6_2, .long m6_3, .long m6_4, .int m6_5, .int m6_6, .int m6_7, .int m6_8, .ref a_t_setBits, .ref a_t_setWeight, .ref a_t_setProfit, .long m6_9, .long m6_10, .long m6_11, .int m6_12, .ref a_t_nextBits, .ref a_t_nextWeight, .ref a_t_nextProfit])), (a_t_all, .inl (cy 0, 604, .inl t_all)), (a_t_orderOf, .inl (cy 0, 60, .inl m6_13)), (a_t_placeOf, .inl (cy 0, 60, .inl m6_14)), (a_t_w, .inl (cy 1, 60, .inr (.inl m6_15))), (a_t_p, .inl (cy 1, 60, .inr (.inl m6_16))), (a_t_setBits, .inl (cy 1, 2002, .inr (.inl m6_17))), (a_t_setWeight, .inl (cy 1, 2002, .inr (.inl m6_18))), (a_t_setProfit, .inl (cy 1, 2002, .inr (.inl m6_19))), (a_t_nextProfit, .inl (cy 1, 2002, .inr (.inl m6_20))), (a_t_nextWeight, .inl (cy 1, 2002, .inr (.inl m6_21))), (a_t_nextBits, .inl (cy 1, 2002, .inr (.inl m6_22)))] := hF
  subst hF
  have hP : va_P (dC, dI) vwCl [(a_t, .inr (7, [.int (0 : Int32), .ref a_t_all, .ref a_t_text, .ref a_t_saved, .ref a_t_undone, .int t_undos, .int t_reached, .int t_length, .int t_begin, .int t_sort, .long t_value, .long t_word, .int t_wrongAt, .int t_badAt, .int t_bad, .ref a_t_told, .long t_toldWeight, .long t_toldProfit, .int m6_0, .long m6_1, .ref a_t_orderOf, .ref a_t_placeOf, .ref a_t_w, .ref a_t_p, .int m6_2, .long m6_3, .long m6_4, .int m6_5, .int m6_6, .int m6_7, .int m6_8, .ref a_t_setBits, .ref a_t_setWeight, .ref a_t_setProfit, .long m6_9, .long m6_10, .long m6_11, .int m6_12, .ref a_t_nextBits, .ref a_t_nextWeight, .ref a_t_nextProfit])), (a_t_all, .inl (cy 0, 604, .inl t_all)), (a_t_orderOf, .inl (cy 0, 60, .inl m6_13)), (a_t_placeOf, .inl (cy 0, 60, .inl m6_14)), (a_t_w, .inl (cy 1, 60, .inr (.inl m6_15))), (a_t_p, .inl (cy 1, 60, .inr (.inl m6_16))), (a_t_setBits, .inl (cy 1, 2002, .inr (.inl m6_17))), (a_t_setWeight, .inl (cy 1, 2002, .inr (.inl m6_18))), (a_t_setProfit, .inl (cy 1, 2002, .inr (.inl m6_19))), (a_t_nextProfit, .inl (cy 1, 2002, .inr (.inl m6_20))), (a_t_nextWeight, .inl (cy 1, 2002, .inr (.inl m6_21))), (a_t_nextBits, .inl (cy 1, 2002, .inr (.inl m6_22)))] H := hP
  have hD : va_D A [(a_t, .inr (7, [.int (0 : Int32), .ref a_t_all, .ref a_t_text, .ref a_t_saved, .ref a_t_undone, .int t_undos, .int t_reached, .int t_length, .int t_begin, .int t_sort, .long t_value, .long t_word, .int t_wrongAt, .int t_badAt, .int t_bad, .ref a_t_told, .long t_toldWeight, .long t_toldProfit, .int m6_0, .long m6_1, .ref a_t_orderOf, .ref a_t_placeOf, .ref a_t_w, .ref a_t_p, .int m6_2, .long m6_3, .long m6_4, .int m6_5, .int m6_6, .int m6_7, .int m6_8, .ref a_t_setBits, .ref a_t_setWeight, .ref a_t_setProfit, .long m6_9, .long m6_10, .long m6_11, .int m6_12, .ref a_t_nextBits, .ref a_t_nextWeight, .ref a_t_nextProfit])), (a_t_all, .inl (cy 0, 604, .inl t_all)), (a_t_orderOf, .inl (cy 0, 60, .inl m6_13)), (a_t_placeOf, .inl (cy 0, 60, .inl m6_14)), (a_t_w, .inl (cy 1, 60, .inr (.inl m6_15))), (a_t_p, .inl (cy 1, 60, .inr (.inl m6_16))), (a_t_setBits, .inl (cy 1, 2002, .inr (.inl m6_17))), (a_t_setWeight, .inl (cy 1, 2002, .inr (.inl m6_18))), (a_t_setProfit, .inl (cy 1, 2002, .inr (.inl m6_19))), (a_t_nextProfit, .inl (cy 1, 2002, .inr (.inl m6_20))), (a_t_nextWeight, .inl (cy 1, 2002, .inr (.inl m6_21))), (a_t_nextBits, .inl (cy 1, 2002, .inr (.inl m6_22)))] := hD
  refine lv_aload_n hx hb dX7_linear_9 rfl (lv_at hl 0 rfl) ?_
  refine xVd0 (As := []) (rest := []) ⟨hx, hb, hml, hown, hts⟩ (mtX7_linearNow l ad dC dI cy a_t a_t_all a_t_text a_t_saved a_t_undone a_t_told a_t_orderOf a_t_placeOf a_t_w a_t_p a_t_setBits a_t_setWeight a_t_setProfit a_t_nextBits a_t_nextWeight a_t_nextProfit _ (0 : Int32) t_undos t_reached t_length t_begin t_sort t_value t_word t_wrongAt t_badAt t_bad t_toldWeight t_toldProfit m6_0 m6_1 m6_2 m6_3 m6_4 m6_5 m6_6 m6_7 m6_8 m6_9 m6_10 m6_11 m6_12 m6_16 m6_15  h) (cwV 0 hts gX7_linear_X7_linearNow rfl rfl rfl qX7_linearNow ⟨Nat.le_of_ble_eq_true rfl, Nat.le_of_ble_eq_true rfl⟩) hE hK hP hD hS hA 7 0 rfl rfl rfl [0, 5, 4] rfl (by decide) rfl hl.1 rfl (Nat.le_of_ble_eq_true rfl) dX7_linear_10 ⟨Nat.le_refl _, Nat.le_refl _⟩ (fun r10 H locs h hP hS => ?_)
  try dsimp only at h
  refine xSl0 (As := [.double r10]) (rest := []) ⟨hx, hb, hml, hown, hts⟩ (mtJxe99ae_doubleToLongBits_ccdee l ad dC dI cy  _  r10 h) (va_cwS 1 hts gX7_linear_Jxe99ae_doubleToLongBits_ccdee rfl rfl rfl qJxe99ae_doubleToLongBits_ccdee.2 ⟨Nat.le_of_ble_eq_true rfl, Nat.le_of_ble_eq_true rfl⟩) hE hK hP hD hS hA [] rfl (by decide) rfl hl.1 rfl (Nat.le_of_ble_eq_true rfl) dX7_linear_13 ⟨Nat.le_refl _, Nat.le_refl _⟩ (fun r13 H locs h hP hS => ?_)
  try dsimp only at h
  rw [← hQ]
  exact W.lret (v := r13) hx hb hr (fun t ht hW => ⟨⟨r13, ((0 : Int32), m6_0, m6_1, m6_2, m6_3, m6_4, m6_5, m6_6, m6_7, m6_8, m6_9, m6_10, m6_11, m6_12, m6_13, m6_14, m6_15, m6_16, m6_17, m6_18, m6_19, m6_20, m6_21, m6_22), rfl, (by dsimp only; exact h), x_end (w1 := [(a_t, .inr (7, [.int (0 : Int32), .ref a_t_all, .ref a_t_text, .ref a_t_saved, .ref a_t_undone, .int t_undos, .int t_reached, .int t_length, .int t_begin, .int t_sort, .long t_value, .long t_word, .int t_wrongAt, .int t_badAt, .int t_bad, .ref a_t_told, .long t_toldWeight, .long t_toldProfit, .int m6_0, .long m6_1, .ref a_t_orderOf, .ref a_t_placeOf, .ref a_t_w, .ref a_t_p, .int m6_2, .long m6_3, .long m6_4, .int m6_5, .int m6_6, .int m6_7, .int m6_8, .ref a_t_setBits, .ref a_t_setWeight, .ref a_t_setProfit, .long m6_9, .long m6_10, .long m6_11, .int m6_12, .ref a_t_nextBits, .ref a_t_nextWeight, .ref a_t_nextProfit])), (a_t_all, .inl (cy 0, 604, .inl t_all)), (a_t_orderOf, .inl (cy 0, 60, .inl m6_13)), (a_t_placeOf, .inl (cy 0, 60, .inl m6_14)), (a_t_w, .inl (cy 1, 60, .inr (.inl m6_15))), (a_t_p, .inl (cy 1, 60, .inr (.inl m6_16))), (a_t_setBits, .inl (cy 1, 2002, .inr (.inl m6_17))), (a_t_setWeight, .inl (cy 1, 2002, .inr (.inl m6_18))), (a_t_setProfit, .inl (cy 1, 2002, .inr (.inl m6_19))), (a_t_nextProfit, .inl (cy 1, 2002, .inr (.inl m6_20))), (a_t_nextWeight, .inl (cy 1, 2002, .inr (.inl m6_21))), (a_t_nextBits, .inl (cy 1, 2002, .inr (.inl m6_22)))]) hP hD hK [0, 1, 2, 3, 4, 5, 6, 7, 8, 9, 10, 11] rfl (by decide) (by first | exact rfl | (dsimp only; exact rfl)) ht hW⟩, hS.F ht⟩) hS.2.2 dX7_linear_16
