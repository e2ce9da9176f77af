/-! what a throw needs of the start: the statics of Throwable, a few words that the tables decide -/
def xNSE : String := "java/util/NoSuchElementException"
def xXB : List Cond := [.castable xNSE xNSE, .declares (Bundle.initS "java/lang/RuntimeException"), .declares (Bundle.initS "java/lang/Exception"), .declares (Bundle.initS Bundle.tN)]
def xEx (A : Nat → Prop) (U : State) (H : Heap) : Prop := (vx_Zq Bundle.tN "UNASSIGNED_STACK" Bundle.steD A U H ∧ vx_Zq Bundle.tN "SUPPRESSED_SENTINEL" Bundle.listD A U H)
  ∧ va_Nw (.castable xNSE xNSE) U ∧ va_Nw (.declares (Bundle.initS "java/lang/RuntimeException")) U ∧ va_Nw (.declares (Bundle.initS "java/lang/Exception")) U ∧ va_Nw (.declares (Bundle.initS Bundle.tN)) U
theorem xEx.to {A B : Nat → Prop} {s U : State} {H H1 : Heap} (h : xEx A s H) (hW : s.WarmedH U.vm) (hq : ∀ a : Nat, a < H.size → ¬ A a → H1[a]? = H[a]?) (hAB : ∀ q, B q → A q) : xEx B U H1 :=
  ⟨⟨((h.1.1.kept hq).narrow hAB).moved hW.alike, ((h.1.2.kept hq).narrow hAB).moved hW.alike⟩, va_Nw.warmC hW h.2.1, va_Nw.warmD hW h.2.2.1, va_Nw.warmD hW h.2.2.2.1, va_Nw.warmD hW h.2.2.2.2⟩
theorem xEx.same {A : Nat → Prop} {s U : State} {H : Heap} (h : xEx A s H) (hv : U.vm = s.vm) : xEx A U H := by
  have ha : s.vm.Alike U.vm := by rw [hv]; exact Vm.Alike.refl _
  exact ⟨⟨h.1.1.moved ha, h.1.2.moved ha⟩, va_Nw.same rfl hv.symm h.2.1, va_Nw.same rfl hv.symm h.2.2.1, va_Nw.same rfl hv.symm h.2.2.2.1, va_Nw.same rfl hv.symm h.2.2.2.2⟩
theorem xEx.words {A : Nat → Prop} {s : State} {H : Heap} {args : Array Value} (h : xEx A s H) : ∀ w ∈ xXB, w.before args s = true :=
  vx_c (va_Nw.use rfl h.2.1) (vx_c (va_Nw.use rfl h.2.2.1) (vx_c (va_Nw.use rfl h.2.2.2.1) (vx_c (va_Nw.use rfl h.2.2.2.2) vx_n)))
theorem xXB_all : ∀ w ∈ (vx_atS RX6 204 xNSE ["java/lang/RuntimeException", "java/lang/Exception"]).filter (fun w => !goodWord w), w ∈ xXB := by decide +kernel
theorem xX_good : ∀ w ∈ Cond.classLink RX6 200 xNSE :: Cond.initialized xNSE :: vx_atS RX6 204 xNSE ["java/lang/RuntimeException", "java/lang/Exception"], vx_ot w = true := by decide +kernel
/-- a contract's start, with what a throw needs -/
def xPreX (ad : (Nat → Nat) × (Nat → Nat)) (D : va_G) (cl : List vw_C) (tys : List (ClassId × FieldType)) (ws : va_W) (sz : Nat) (U : State) : Prop := xPre ad D cl tys ws sz U ∧ xEx (va_A ws sz) U U.heap
theorem x_blindX {ad : (Nat → Nat) × (Nat → Nat)} {D : va_G} {cl : List vw_C} {tys : List (ClassId × FieldType)} {av : List Value} {wc : va_W} {sz : Nat} : FrameBlind (va_Pc av (xPreX ad D cl tys wc sz)) := fun a U g mk q => by
  obtain ⟨q0, ⟨q1, qP, qK, qD, qE⟩, qX⟩ := q
  exact ⟨q0, ⟨q1, qP, va_K.moved (u := U) (U := U.calling g mk a) (Vm.Alike.refl U.vm) qK, qD, xE.same (s := U) (U := U.calling g mk a) qE rfl⟩, xEx.same (s := U) (U := U.calling g mk a) qX rfl⟩
/-- where it was thrown: the class, the world as it was -/
def xBX (D : va_G) (cl : List vw_C) (tys : List (ClassId × FieldType)) (ws : va_W) (A : Nat → Prop) (E : String) (_ : Unit) (t : State) : Prop := E = xNSE ∧ va_P D cl ws t.heap ∧ va_K D cl tys t ∧ va_D A ws
