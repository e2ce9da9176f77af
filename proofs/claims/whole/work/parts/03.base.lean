/-! The shape of a contract, and a call in one row: the callee's cells are cut out, and what comes back stands beside the rest. -/
/-- words that the tables alone decide, for calls among nest mates -/
def xN : List Cond := [.methodLinkNest RX6 29 yX0_init RX6, .methodLinkNest RX0 11 yX2_init RX6, .methodLinkNest RX0 20 yX4_init RX6, .methodLinkNest RX6 43 yX3_init RX6, .methodLinkNest RX6 50 yX4_init RX6, .methodLinkNest RX3 114 yX6_canBeRoom RX6, .methodLinkNest RX3 120 yX6_canBeMost RX6, .methodLinkNest RX3 125 yX6_canBeItemsNumber RX6, .methodLinkNest RX1 37 yX6_canBeItemsNumber RX6]
/-- what was there ahead of all: the texts, String's own statics -/
def xE (ad : (Nat → Nat) × (Nat → Nat)) (A : Nat → Prop) (U : State) (H : Heap) : Prop :=
  (∀ w ∈ xN, va_Nw w U) ∧ vk_S 3 [4, 4, 4] [[114, 111, 111, 109], [109, 111, 115, 116], [105, 116, 101, 109]] ad.1 ad.2 A U H
  ∧ (vk_R RX3 63 "room" (ad.1 0) U ∧ vk_R RX3 69 "most" (ad.1 1) U ∧ vk_R RX3 71 "item" (ad.1 2) U)
  ∧ (vk_R RX6 202 "there is no such item" (ad.1 3) U ∧ vk_R RX6 223 "an item has no such thing" (ad.1 4) U ∧ vk_R RX6 236 "there is no such set" (ad.1 5) U ∧ vk_R RX6 253 "a set has no such thing" (ad.1 6) U)
  ∧ (va_AO "KnapsackCore$State" U ∧ va_AO "KnapsackCore$Load" U)
  ∧ va_Z "java/lang/String" "COMPACT_STRINGS" "Z" (.int 1) A U H ∧ va_Zq "jdk/internal/util/Preconditions" "SIOOBE_FORMATTER" "Ljava/util/function/BiFunction;" A U H
theorem xN_all {Pr : Cond → Prop} (h : ∀ a i x g, Pr (.methodLinkNest a i x g)) : ∀ w ∈ xN, Pr w := by
  intro w hw
  simp only [xN, List.mem_cons, List.not_mem_nil, or_false] at hw
  rcases hw with rfl | rfl | rfl | rfl | rfl | rfl | rfl | rfl | rfl <;> exact h _ _ _ _
theorem xE.to {ad : (Nat → Nat) × (Nat → Nat)} {A B : Nat → Prop} {s U : State} {H H1 : Heap} (h : xE ad A s H) (hW : s.WarmedH U.vm) (hq : ∀ a : Nat, a < H.size → ¬ A a → H1[a]? = H[a]?) (hAB : ∀ q, B q → A q) : xE ad B U H1 := by
  obtain ⟨h1, h2, ⟨h3, h4, h5⟩, ⟨h6, h7, h8, h9⟩, ⟨h12, h13⟩, h10, h11⟩ := h
  refine ⟨fun w hw => ?_, ((h2.kept hq).narrow hAB).moved hW.alike, ⟨h3.warm hW, h4.warm hW, h5.warm hW⟩, ⟨h6.warm hW, h7.warm hW, h8.warm hW, h9.warm hW⟩, ⟨va_AO.moved hW.alike h12, va_AO.moved hW.alike h13⟩, ((h10.kept hq).narrow hAB).moved hW.alike, ((h11.kept hq).narrow hAB).moved hW.alike⟩
  exact xN_all (Pr := fun w => va_Nw w s → va_Nw w U) (fun a i x g hz => va_Nw.warmM hW hz) w hw (h1 w hw)
theorem xE.same {ad : (Nat → Nat) × (Nat → Nat)} {A : Nat → Prop} {s U : State} {H : Heap} (h : xE ad A s H) (hv : U.vm = s.vm) : xE ad A U H := by
  obtain ⟨h1, h2, ⟨h3, h4, h5⟩, ⟨h6, h7, h8, h9⟩, ⟨h12, h13⟩, h10, h11⟩ := h
  have ha : s.vm.Alike U.vm := by rw [hv]; exact Vm.Alike.refl _
  refine ⟨fun w hw => ?_, h2.moved ha, ⟨h3.same hv, h4.same hv, h5.same hv⟩, ⟨h6.same hv, h7.same hv, h8.same hv, h9.same hv⟩, ⟨va_AO.moved ha h12, va_AO.moved ha h13⟩, h10.moved ha, h11.moved ha⟩
  exact xN_all (Pr := fun w => va_Nw w s → va_Nw w U) (fun a i x g hz => va_Nw.same rfl hv.symm hz) w hw (h1 w hw)
/-- the world at a method's start -/
def xPre (ad : (Nat → Nat) × (Nat → Nat)) (D : va_G) (cl : List vw_C) (tys : List (ClassId × FieldType)) (ws : va_W) (sz : Nat) (U : State) : Prop := U.heap.size = sz ∧ va_P D cl ws U.heap ∧ va_K D cl tys U ∧ va_D (fun _ => True) ws ∧ xE ad (va_A ws sz) U U.heap
/-- the world behind it: one of those that F allows -/
def xB (D : va_G) (cl : List vw_C) (tys : List (ClassId × FieldType)) (A : Nat → Prop) {S : Type} (F : S → va_W → Prop) (u : S) (t : State) : Prop := ∃ w1 : va_W, F u w1 ∧ va_P D cl w1 t.heap ∧ va_K D cl tys t ∧ va_D A w1
def xMi (l : Launch) (y : MethodName) (wsy : List Cond) (rm : Room) (ad : (Nat → Nat) × (Nat → Nat)) (D : va_G) (cl : List vw_C) (tys : List (ClassId × FieldType)) (av : List Value) (wc : va_W) (sz : Nat) {S : Type} (post : Int32 → S → Prop) (F : S → va_W → Prop) (mc ms : Nat) : Prop :=
  Met l y wsy rm (va_Pc av (xPre ad D cl tys wc sz)) (va_Qi post (xB D cl tys (va_A wc sz) F) (va_A wc sz)) mc ms (va_A wc sz)
def xMl (l : Launch) (y : MethodName) (wsy : List Cond) (rm : Room) (ad : (Nat → Nat) × (Nat → Nat)) (D : va_G) (cl : List vw_C) (tys : List (ClassId × FieldType)) (av : List Value) (wc : va_W) (sz : Nat) {S : Type} (post : Int64 → S → Prop) (F : S → va_W → Prop) (mc ms : Nat) : Prop :=
  Met l y wsy rm (va_Pc av (xPre ad D cl tys wc sz)) (va_Ql post (xB D cl tys (va_A wc sz) F) (va_A wc sz)) mc ms (va_A wc sz)
def xMf (l : Launch) (y : MethodName) (wsy : List Cond) (rm : Room) (ad : (Nat → Nat) × (Nat → Nat)) (D : va_G) (cl : List vw_C) (tys : List (ClassId × FieldType)) (av : List Value) (wc : va_W) (sz : Nat) {S : Type} (post : UInt32 → S → Prop) (F : S → va_W → Prop) (mc ms : Nat) : Prop :=
  Met l y wsy rm (va_Pc av (xPre ad D cl tys wc sz)) (va_Qf post (xB D cl tys (va_A wc sz) F) (va_A wc sz)) mc ms (va_A wc sz)
def xMd (l : Launch) (y : MethodName) (wsy : List Cond) (rm : Room) (ad : (Nat → Nat) × (Nat → Nat)) (D : va_G) (cl : List vw_C) (tys : List (ClassId × FieldType)) (av : List Value) (wc : va_W) (sz : Nat) {S : Type} (post : UInt64 → S → Prop) (F : S → va_W → Prop) (mc ms : Nat) : Prop :=
  Met l y wsy rm (va_Pc av (xPre ad D cl tys wc sz)) (va_Qd post (xB D cl tys (va_A wc sz) F) (va_A wc sz)) mc ms (va_A wc sz)
def xMv (l : Launch) (y : MethodName) (wsy : List Cond) (rm : Room) (ad : (Nat → Nat) × (Nat → Nat)) (D : va_G) (cl : List vw_C) (tys : List (ClassId × FieldType)) (av : List Value) (wc : va_W) (sz : Nat) {S : Type} (post : S → Prop) (F : S → va_W → Prop) (mc ms : Nat) : Prop :=
  Met l y wsy rm (va_Pc av (xPre ad D cl tys wc sz)) (va_Qv post (xB D cl tys (va_A wc sz) F) (va_A wc sz)) mc ms (va_A wc sz)
theorem x_blind {ad : (Nat → Nat) × (Nat → Nat)} {D : va_G} {cl : List vw_C} {tys : List (ClassId × FieldType)} {av : List Value} {wc : va_W} {sz : Nat} : FrameBlind (va_Pc av (xPre ad D cl tys wc sz)) := fun a U g mk q => by
  obtain ⟨q0, q1, qP, qK, qD, qE⟩ := q
  exact ⟨q0, q1, qP, va_K.moved (u := U) (U := U.calling g mk a) (Vm.Alike.refl U.vm) qK, qD, xE.same (s := U) (U := U.calling g mk a) qE rfl⟩
section XB
variable {p : Program} {l : Launch} {e : Env} {R : Room} {s : State} {m : MethodId} {args : Array Value} {below : List Frame} {meth : Method} {c : Code} {H : Heap} {locs : List Loc} {cells slots : Nat} {Q : State → Prop}
variable {cc : ByteArray} {pc : Nat} {ls : Array Slot} {rest st0 : List Value} {ad : (Nat → Nat) × (Nat → Nat)} {D : va_G} {cl : List vw_C} {A : Nat → Prop} {tys : List (ClassId × FieldType)} {ws wc wr : va_W}
variable {S : Type} {F : S → va_W → Prop} {y : MethodName} {bytes : ByteArray} {maxL nL mc ms n index : Nat} {ret : Option FieldType} {wsy Ts : List Cond} {rm : Room} {own C host : String} {b : Addr} {As : List Value}
theorem x_sub {w1 : va_W} (hP : va_P D cl ws H) (is : List Nat) (hC : is.map (fun i => ws[i]?) = w1.map some) : va_P D cl w1 H := by
  intro k q hk
  have h1 : (is.map (fun i => ws[i]?))[k]? = some (some q) := by rw [hC, List.getElem?_map, hk]; rfl
  rw [List.getElem?_map] at h1
  cases hi : is[k]? with
  | none => rw [hi] at h1; cases h1
  | some i => rw [hi] at h1; exact hP i q (Option.some.inj h1)
/-- what a call needs of the caller's world -/
theorem x_cut (hE : xE ad A s s.heap) (hK : va_K D cl tys s) (hP : va_P D cl ws H) (hD : va_D A ws) (hS : va_S A s.heap H locs) (hA : ∀ q, s.heap.size ≤ q → A q) (isC : List Nat) (hC : isC.map (fun i => ws[i]?) = wc.map some) (hnC : va_nd isC = true) :
    va_P D cl wc H ∧ va_D A wc ∧ (∀ q, va_A wc H.size q → A q) ∧ ∀ (av : List Value) (U : State), U.heap = H → s.WarmedH U.vm → va_Pc av (xPre ad D cl tys wc H.size) av.toArray U := by
  have hDc : va_D A wc := hD.sub isC hnC hC
  have hPc : va_P D cl wc H := x_sub hP isC hC
  have hF : ∀ q, va_A wc H.size q → A q := va_free hD hS hA isC hC
  exact ⟨hPc, hDc, hF, fun av U hU hW => ⟨rfl, by rw [hU], by rw [hU]; exact hPc, va_K.moved hW.alike hK, hDc.weaken (fun _ _ _ _ => trivial), by rw [hU]; exact hE.to hW hS.2.1 hF⟩⟩
/-- what comes back -/
theorem x_back {H1 : Heap} {t : State} {u : S} (hP : va_P D cl ws H) (hD : va_D A ws) (isC isR : List Nat) (hC : isC.map (fun i => ws[i]?) = wc.map some) (hR : isR.map (fun i => ws[i]?) = wr.map some) (hn : va_nd isR = true) (hdis : isR.all (fun i => !isC.contains i) = true) (hF : ∀ q, va_A wc H.size q → A q) (ht : t.heap = H1) (hB : xB D cl tys (va_A wc H.size) F u t) (hk : ∀ q : Nat, q < H.size → ¬ va_A wc H.size q → H1[q]? = H[q]?) :
    ∃ w1, F u w1 ∧ va_P D cl (wr ++ w1) H1 ∧ va_D A (wr ++ w1) := by
  obtain ⟨w1, hFu, hP1, hK1, hD1⟩ := hB
  rw [ht] at hP1
  have hdis' : ∀ i ∈ isR, i ∉ isC := by
    intro i hi hc
    have h2 := List.all_eq_true.mp hdis i hi
    rw [List.contains_iff_mem.mpr hc] at h2
    cases h2
  obtain ⟨h1, h2⟩ := va_join hP hD isC isR hC hR hn hdis' hk hF hP1 hD1
  exact ⟨w1, hFu, h1, h2⟩
/-- what comes back where nothing was written: the world as it was -/
theorem x_back0 {H1 : Heap} {t : State} {u : Unit} (hP : va_P D cl ws H) (hD : va_D A ws) (isC : List Nat) (hC : isC.map (fun i => ws[i]?) = wc.map some) (ht : t.heap = H1) (hB : xB D cl tys (va_A wc H.size) (fun (_ : Unit) w => w = wc) u t) (hk : ∀ q : Nat, q < H.size → ¬ va_A wc H.size q → H1[q]? = H[q]?) : va_P D cl ws H1 := by
  obtain ⟨w1, hw1, hP1, hK1, hD1⟩ := hB
  replace hw1 : w1 = wc := hw1
  rw [ht, hw1] at hP1
  intro k q hkq
  obtain ⟨qa, qe⟩ := q
  by_cases hA1 : va_A wc H.size qa
  · rcases hA1 with ⟨k2, e2, h2⟩ | h2
    · have h1 : (isC.map (fun i => ws[i]?))[k2]? = some (some (qa, e2)) := by rw [hC, List.getElem?_map, h2]; rfl
      rw [List.getElem?_map] at h1
      cases hi : isC[k2]? with
      | none => rw [hi] at h1; cases h1
      | some i =>
        rw [hi] at h1
        have h3 : ws[i]? = some (qa, e2) := Option.some.inj h1
        have h4 := hD.1 k i (qa, qe) (qa, e2) hkq h3 rfl
        subst h4
        rw [hkq] at h3
        cases h3
        exact hP1 k2 _ h2
    · exact absurd (hP k (qa, qe) hkq).lt (Nat.not_lt.mpr h2)
  · exact (hP k (qa, qe) hkq).kept (hk qa (hP k (qa, qe) hkq).lt hA1)
theorem x_end {t : State} {w1 : va_W} {u : S} (hP : va_P D cl ws H) (hD : va_D A ws) (hK : va_K D cl tys s) (is : List Nat) (hC : is.map (fun i => ws[i]?) = w1.map some) (hn : va_nd is = true) (hF : F u w1) (ht : t.heap = H) (hW : s.WarmedH t.vm) : xB D cl tys A F u t := by
  refine ⟨w1, hF, ?_, va_K.moved hW.alike hK, hD.sub is hn hC⟩
  rw [ht]
  exact x_sub hP is hC
theorem xVi {post : Int32 → S → Prop} (S0 : CallFix p m c cc nL s args Ts own) (hM : xMi l y wsy rm ad D cl tys (.ref b :: As) wc H.size post F mc ms) (cw : CallW R s args own C index y bytes maxL ret wsy rm mc ms n) (hE : xE ad A s s.heap) (hK : va_K D cl tys s) (hP : va_P D cl ws H) (hD : va_D A ws) (hS : va_S A s.heap H locs) (hA : ∀ q, s.heap.size ≤ q → A q) (ci q0 : Nat) {fs : List Value} {qc : vw_C} (hcl : cl[ci]? = some qc) (hqc : qc.1 = C) (hw0 : wc[q0]? = some (b, .inr (ci, fs)))
    (isC isR : List Nat) (hC : isC.map (fun i => ws[i]?) = wc.map some) (hR : isR.map (fun i => ws[i]?) = wr.map some) (hn : va_nd isR = true) (hnC : va_nd isC = true) (hdis : isR.all (fun i => !isC.contains i) = true) (hlen : As.length = n) (hsz : ls.size = nL) (hst : st0 = As.reverse ++ .ref b :: rest) (hW : (rest.map fun v => v.category).sum ≤ 8) (hdg : decode cc pc = .ok (.invokevirtual index, 3)) (hf : cells + mc ≤ R.cells ∧ slots + ms ≤ R.slots)
    (kk : ∀ (r : Int32) (u : S) (w1 : va_W) (H1 : Heap) (locs1 : List Loc), post r u → F u w1 → va_P D cl (wr ++ w1) H1 → va_D A (wr ++ w1) → va_S A s.heap H1 locs1 → W p l e R s m args below meth c H1 locs1 (cells + mc) (slots + ms) Q (F0 m (pc + 3) ls (.int r :: rest))) : W p l e R s m args below meth c H locs cells slots Q (F0 m pc ls st0) := by
  obtain ⟨hPc, hDc, hFc, hpre⟩ := x_cut hE hK hP hD hS hA isC hC hnC
  subst hqc
  refine va_calli (va_runV (As := As) (rest := rest) S0 hM cw ⟨x_blind, va_recv hK hPc hcl hw0, fun U hU hW => hpre _ U hU hW⟩ rfl hlen hsz hst (lv_room hW) hdg hf) hS (fun q _ h => hFc q h) hFc (fun r u t H1 locs1 ht hvm hw hB hz1 hk1 hS1 => ?_)
  obtain ⟨w1, h1, h2, h3⟩ := x_back hP hD isC isR hC hR hn hdis hFc ht hB hk1
  exact kk r u w1 H1 locs1 hw h1 h2 h3 hS1
theorem xVl {post : Int64 → S → Prop} (S0 : CallFix p m c cc nL s args Ts own) (hM : xMl l y wsy rm ad D cl tys (.ref b :: As) wc H.size post F mc ms) (cw : CallW R s args own C index y bytes maxL ret wsy rm mc ms n) (hE : xE ad A s s.heap) (hK : va_K D cl tys s) (hP : va_P D cl ws H) (hD : va_D A ws) (hS : va_S A s.heap H locs) (hA : ∀ q, s.heap.size ≤ q → A q) (ci q0 : Nat) {fs : List Value} {qc : vw_C} (hcl : cl[ci]? = some qc) (hqc : qc.1 = C) (hw0 : wc[q0]? = some (b, .inr (ci, fs)))
    (isC isR : List Nat) (hC : isC.map (fun i => ws[i]?) = wc.map some) (hR : isR.map (fun i => ws[i]?) = wr.map some) (hn : va_nd isR = true) (hnC : va_nd isC = true) (hdis : isR.all (fun i => !isC.contains i) = true) (hlen : As.length = n) (hsz : ls.size = nL) (hst : st0 = As.reverse ++ .ref b :: rest) (hW : (rest.map fun v => v.category).sum ≤ 8) (hdg : decode cc pc = .ok (.invokevirtual index, 3)) (hf : cells + mc ≤ R.cells ∧ slots + ms ≤ R.slots)
    (kk : ∀ (r : Int64) (u : S) (w1 : va_W) (H1 : Heap) (locs1 : List Loc), post r u → F u w1 → va_P D cl (wr ++ w1) H1 → va_D A (wr ++ w1) → va_S A s.heap H1 locs1 → W p l e R s m args below meth c H1 locs1 (cells + mc) (slots + ms) Q (F0 m (pc + 3) ls (.long r :: rest))) : W p l e R s m args below meth c H locs cells slots Q (F0 m pc ls st0) := by
  obtain ⟨hPc, hDc, hFc, hpre⟩ := x_cut hE hK hP hD hS hA isC hC hnC
  subst hqc
  refine va_calll (va_runV (As := As) (rest := rest) S0 hM cw ⟨x_blind, va_recv hK hPc hcl hw0, fun U hU hW => hpre _ U hU hW⟩ rfl hlen hsz hst (lv_room hW) hdg hf) hS (fun q _ h => hFc q h) hFc (fun r u t H1 locs1 ht hvm hw hB hz1 hk1 hS1 => ?_)
  obtain ⟨w1, h1, h2, h3⟩ := x_back hP hD isC isR hC hR hn hdis hFc ht hB hk1
  exact kk r u w1 H1 locs1 hw h1 h2 h3 hS1
theorem xVd {post : UInt64 → S → Prop} (S0 : CallFix p m c cc nL s args Ts own) (hM : xMd l y wsy rm ad D cl tys (.ref b :: As) wc H.size post F mc ms) (cw : CallW R s args own C index y bytes maxL ret wsy rm mc ms n) (hE : xE ad A s s.heap) (hK : va_K D cl tys s) (hP : va_P D cl ws H) (hD : va_D A ws) (hS : va_S A s.heap H locs) (hA : ∀ q, s.heap.size ≤ q → A q) (ci q0 : Nat) {fs : List Value} {qc : vw_C} (hcl : cl[ci]? = some qc) (hqc : qc.1 = C) (hw0 : wc[q0]? = some (b, .inr (ci, fs)))
    (isC isR : List Nat) (hC : isC.map (fun i => ws[i]?) = wc.map some) (hR : isR.map (fun i => ws[i]?) = wr.map some) (hn : va_nd isR = true) (hnC : va_nd isC = true) (hdis : isR.all (fun i => !isC.contains i) = true) (hlen : As.length = n) (hsz : ls.size = nL) (hst : st0 = As.reverse ++ .ref b :: rest) (hW : (rest.map fun v => v.category).sum ≤ 8) (hdg : decode cc pc = .ok (.invokevirtual index, 3)) (hf : cells + mc ≤ R.cells ∧ slots + ms ≤ R.slots)
    (kk : ∀ (r : UInt64) (u : S) (w1 : va_W) (H1 : Heap) (locs1 : List Loc), post r u → F u w1 → va_P D cl (wr ++ w1) H1 → va_D A (wr ++ w1) → va_S A s.heap H1 locs1 → W p l e R s m args below meth c H1 locs1 (cells + mc) (slots + ms) Q (F0 m (pc + 3) ls (.double r :: rest))) : W p l e R s m args below meth c H locs cells slots Q (F0 m pc ls st0) := by
  obtain ⟨hPc, hDc, hFc, hpre⟩ := x_cut hE hK hP hD hS hA isC hC hnC
  subst hqc
  refine va_calld (va_runV (As := As) (rest := rest) S0 hM cw ⟨x_blind, va_recv hK hPc hcl hw0, fun U hU hW => hpre _ U hU hW⟩ rfl hlen hsz hst (lv_room hW) hdg hf) hS (fun q _ h => hFc q h) hFc (fun r u t H1 locs1 ht hvm hw hB hz1 hk1 hS1 => ?_)
  obtain ⟨w1, h1, h2, h3⟩ := x_back hP hD isC isR hC hR hn hdis hFc ht hB hk1
  exact kk r u w1 H1 locs1 hw h1 h2 h3 hS1
theorem xVv {post : S → Prop} (S0 : CallFix p m c cc nL s args Ts own) (hM : xMv l y wsy rm ad D cl tys (.ref b :: As) wc H.size post F mc ms) (cw : CallW R s args own C index y bytes maxL ret wsy rm mc ms n) (hE : xE ad A s s.heap) (hK : va_K D cl tys s) (hP : va_P D cl ws H) (hD : va_D A ws) (hS : va_S A s.heap H locs) (hA : ∀ q, s.heap.size ≤ q → A q) (ci q0 : Nat) {fs : List Value} {qc : vw_C} (hcl : cl[ci]? = some qc) (hqc : qc.1 = C) (hw0 : wc[q0]? = some (b, .inr (ci, fs)))
    (isC isR : List Nat) (hC : isC.map (fun i => ws[i]?) = wc.map some) (hR : isR.map (fun i => ws[i]?) = wr.map some) (hn : va_nd isR = true) (hnC : va_nd isC = true) (hdis : isR.all (fun i => !isC.contains i) = true) (hlen : As.length = n) (hsz : ls.size = nL) (hst : st0 = As.reverse ++ .ref b :: rest) (hW : (rest.map fun v => v.category).sum ≤ 8) (hdg : decode cc pc = .ok (.invokevirtual index, 3)) (hf : cells + mc ≤ R.cells ∧ slots + ms ≤ R.slots)
    (kk : ∀ (u : S) (w1 : va_W) (H1 : Heap) (locs1 : List Loc), post u → F u w1 → va_P D cl (wr ++ w1) H1 → va_D A (wr ++ w1) → va_S A s.heap H1 locs1 → W p l e R s m args below meth c H1 locs1 (cells + mc) (slots + ms) Q (F0 m (pc + 3) ls rest)) : W p l e R s m args below meth c H locs cells slots Q (F0 m pc ls st0) := by
  obtain ⟨hPc, hDc, hFc, hpre⟩ := x_cut hE hK hP hD hS hA isC hC hnC
  subst hqc
  refine va_callv (va_runV (As := As) (rest := rest) S0 hM cw ⟨x_blind, va_recv hK hPc hcl hw0, fun U hU hW => hpre _ U hU hW⟩ rfl hlen hsz hst (lv_room hW) hdg hf) hS (fun q _ h => hFc q h) hFc (fun u t H1 locs1 ht hvm hw hB hz1 hk1 hS1 => ?_)
  obtain ⟨w1, h1, h2, h3⟩ := x_back hP hD isC isR hC hR hn hdis hFc ht hB hk1
  exact kk u w1 H1 locs1 hw h1 h2 h3 hS1
theorem xSi {post : Int32 → S → Prop} (S0 : CallFix p m c cc nL s args Ts own) (hM : xMi l y wsy rm ad D cl tys As wc H.size post F mc ms) (cw : CallB R s args own index y bytes maxL ret wsy rm mc ms n ∧ (Cond.static y).before args s = true) (hE : xE ad A s s.heap) (hK : va_K D cl tys s) (hP : va_P D cl ws H) (hD : va_D A ws) (hS : va_S A s.heap H locs) (hA : ∀ q, s.heap.size ≤ q → A q)
    (isC isR : List Nat) (hC : isC.map (fun i => ws[i]?) = wc.map some) (hR : isR.map (fun i => ws[i]?) = wr.map some) (hn : va_nd isR = true) (hnC : va_nd isC = true) (hdis : isR.all (fun i => !isC.contains i) = true) (hlen : As.length = n) (hsz : ls.size = nL) (hst : st0 = As.reverse ++ rest) (hW : (rest.map fun v => v.category).sum ≤ 8) (hdg : decode cc pc = .ok (.invokestatic index, 3)) (hf : cells + mc ≤ R.cells ∧ slots + ms ≤ R.slots)
    (kk : ∀ (r : Int32) (u : S) (w1 : va_W) (H1 : Heap) (locs1 : List Loc), post r u → F u w1 → va_P D cl (wr ++ w1) H1 → va_D A (wr ++ w1) → va_S A s.heap H1 locs1 → W p l e R s m args below meth c H1 locs1 (cells + mc) (slots + ms) Q (F0 m (pc + 3) ls (.int r :: rest))) : W p l e R s m args below meth c H locs cells slots Q (F0 m pc ls st0) := by
  obtain ⟨hPc, hDc, hFc, hpre⟩ := x_cut hE hK hP hD hS hA isC hC hnC
  refine va_calli (va_runS (As := As) (rest := rest) S0 hM cw ⟨x_blind, fun U hU hW => hpre _ U hU hW⟩ rfl hlen hsz hst (lv_room hW) hdg hf) hS (fun q _ h => hFc q h) hFc (fun r u t H1 locs1 ht hvm hw hB hz1 hk1 hS1 => ?_)
  obtain ⟨w1, h1, h2, h3⟩ := x_back hP hD isC isR hC hR hn hdis hFc ht hB hk1
  exact kk r u w1 H1 locs1 hw h1 h2 h3 hS1
theorem xSl {post : Int64 → S → Prop} (S0 : CallFix p m c cc nL s args Ts own) (hM : xMl l y wsy rm ad D cl tys As wc H.size post F mc ms) (cw : CallB R s args own index y bytes maxL ret wsy rm mc ms n ∧ (Cond.static y).before args s = true) (hE : xE ad A s s.heap) (hK : va_K D cl tys s) (hP : va_P D cl ws H) (hD : va_D A ws) (hS : va_S A s.heap H locs) (hA : ∀ q, s.heap.size ≤ q → A q)
    (isC isR : List Nat) (hC : isC.map (fun i => ws[i]?) = wc.map some) (hR : isR.map (fun i => ws[i]?) = wr.map some) (hn : va_nd isR = true) (hnC : va_nd isC = true) (hdis : isR.all (fun i => !isC.contains i) = true) (hlen : As.length = n) (hsz : ls.size = nL) (hst : st0 = As.reverse ++ rest) (hW : (rest.map fun v => v.category).sum ≤ 8) (hdg : decode cc pc = .ok (.invokestatic index, 3)) (hf : cells + mc ≤ R.cells ∧ slots + ms ≤ R.slots)
    (kk : ∀ (r : Int64) (u : S) (w1 : va_W) (H1 : Heap) (locs1 : List Loc), post r u → F u w1 → va_P D cl (wr ++ w1) H1 → va_D A (wr ++ w1) → va_S A s.heap H1 locs1 → W p l e R s m args below meth c H1 locs1 (cells + mc) (slots + ms) Q (F0 m (pc + 3) ls (.long r :: rest))) : W p l e R s m args below meth c H locs cells slots Q (F0 m pc ls st0) := by
  obtain ⟨hPc, hDc, hFc, hpre⟩ := x_cut hE hK hP hD hS hA isC hC hnC
  refine va_calll (va_runS (As := As) (rest := rest) S0 hM cw ⟨x_blind, fun U hU hW => hpre _ U hU hW⟩ rfl hlen hsz hst (lv_room hW) hdg hf) hS (fun q _ h => hFc q h) hFc (fun r u t H1 locs1 ht hvm hw hB hz1 hk1 hS1 => ?_)
  obtain ⟨w1, h1, h2, h3⟩ := x_back hP hD isC isR hC hR hn hdis hFc ht hB hk1
  exact kk r u w1 H1 locs1 hw h1 h2 h3 hS1
theorem xSf {post : UInt32 → S → Prop} (S0 : CallFix p m c cc nL s args Ts own) (hM : xMf l y wsy rm ad D cl tys As wc H.size post F mc ms) (cw : CallB R s args own index y bytes maxL ret wsy rm mc ms n ∧ (Cond.static y).before args s = true) (hE : xE ad A s s.heap) (hK : va_K D cl tys s) (hP : va_P D cl ws H) (hD : va_D A ws) (hS : va_S A s.heap H locs) (hA : ∀ q, s.heap.size ≤ q → A q)
    (isC isR : List Nat) (hC : isC.map (fun i => ws[i]?) = wc.map some) (hR : isR.map (fun i => ws[i]?) = wr.map some) (hn : va_nd isR = true) (hnC : va_nd isC = true) (hdis : isR.all (fun i => !isC.contains i) = true) (hlen : As.length = n) (hsz : ls.size = nL) (hst : st0 = As.reverse ++ rest) (hW : (rest.map fun v => v.category).sum ≤ 8) (hdg : decode cc pc = .ok (.invokestatic index, 3)) (hf : cells + mc ≤ R.cells ∧ slots + ms ≤ R.slots)
    (kk : ∀ (r : UInt32) (u : S) (w1 : va_W) (H1 : Heap) (locs1 : List Loc), post r u → F u w1 → va_P D cl (wr ++ w1) H1 → va_D A (wr ++ w1) → va_S A s.heap H1 locs1 → W p l e R s m args below meth c H1 locs1 (cells + mc) (slots + ms) Q (F0 m (pc + 3) ls (.float r :: rest))) : W p l e R s m args below meth c H locs cells slots Q (F0 m pc ls st0) := by
  obtain ⟨hPc, hDc, hFc, hpre⟩ := x_cut hE hK hP hD hS hA isC hC hnC
  refine va_callf (va_runS (As := As) (rest := rest) S0 hM cw ⟨x_blind, fun U hU hW => hpre _ U hU hW⟩ rfl hlen hsz hst (lv_room hW) hdg hf) hS (fun q _ h => hFc q h) hFc (fun r u t H1 locs1 ht hvm hw hB hz1 hk1 hS1 => ?_)
  obtain ⟨w1, h1, h2, h3⟩ := x_back hP hD isC isR hC hR hn hdis hFc ht hB hk1
  exact kk r u w1 H1 locs1 hw h1 h2 h3 hS1
theorem xSv {post : S → Prop} (S0 : CallFix p m c cc nL s args Ts own) (hM : xMv l y wsy rm ad D cl tys As wc H.size post F mc ms) (cw : CallB R s args own index y bytes maxL ret wsy rm mc ms n ∧ (Cond.static y).before args s = true) (hE : xE ad A s s.heap) (hK : va_K D cl tys s) (hP : va_P D cl ws H) (hD : va_D A ws) (hS : va_S A s.heap H locs) (hA : ∀ q, s.heap.size ≤ q → A q)
    (isC isR : List Nat) (hC : isC.map (fun i => ws[i]?) = wc.map some) (hR : isR.map (fun i => ws[i]?) = wr.map some) (hn : va_nd isR = true) (hnC : va_nd isC = true) (hdis : isR.all (fun i => !isC.contains i) = true) (hlen : As.length = n) (hsz : ls.size = nL) (hst : st0 = As.reverse ++ rest) (hW : (rest.map fun v => v.category).sum ≤ 8) (hdg : decode cc pc = .ok (.invokestatic index, 3)) (hf : cells + mc ≤ R.cells ∧ slots + ms ≤ R.slots)
    (kk : ∀ (u : S) (w1 : va_W) (H1 : Heap) (locs1 : List Loc), post u → F u w1 → va_P D cl (wr ++ w1) H1 → va_D A (wr ++ w1) → va_S A s.heap H1 locs1 → W p l e R s m args below meth c H1 locs1 (cells + mc) (slots + ms) Q (F0 m (pc + 3) ls rest)) : W p l e R s m args below meth c H locs cells slots Q (F0 m pc ls st0) := by
  obtain ⟨hPc, hDc, hFc, hpre⟩ := x_cut hE hK hP hD hS hA isC hC hnC
  refine va_callv (va_runS (As := As) (rest := rest) S0 hM cw ⟨x_blind, fun U hU hW => hpre _ U hU hW⟩ rfl hlen hsz hst (lv_room hW) hdg hf) hS (fun q _ h => hFc q h) hFc (fun u t H1 locs1 ht hvm hw hB hz1 hk1 hS1 => ?_)
  obtain ⟨w1, h1, h2, h3⟩ := x_back hP hD isC isR hC hR hn hdis hFc ht hB hk1
  exact kk u w1 H1 locs1 hw h1 h2 h3 hS1
theorem xNi {post : Int32 → S → Prop} (S0 : CallFix p m c cc nL s args Ts own) (hM : xMi l y wsy rm ad D cl tys As wc H.size post F mc ms) (cw : va_CN R s args own index y host bytes maxL ret wsy rm mc ms n ∧ (Cond.static y).before args s = true ∧ True) (hE : xE ad A s s.heap) (hK : va_K D cl tys s) (hP : va_P D cl ws H) (hD : va_D A ws) (hS : va_S A s.heap H locs) (hA : ∀ q, s.heap.size ≤ q → A q)
    (isC isR : List Nat) (hC : isC.map (fun i => ws[i]?) = wc.map some) (hR : isR.map (fun i => ws[i]?) = wr.map some) (hn : va_nd isR = true) (hnC : va_nd isC = true) (hdis : isR.all (fun i => !isC.contains i) = true) (hlen : As.length = n) (hsz : ls.size = nL) (hst : st0 = As.reverse ++ rest) (hW : (rest.map fun v => v.category).sum ≤ 8) (hdg : decode cc pc = .ok (.invokestatic index, 3)) (hf : cells + mc ≤ R.cells ∧ slots + ms ≤ R.slots)
    (kk : ∀ (r : Int32) (u : S) (w1 : va_W) (H1 : Heap) (locs1 : List Loc), post r u → F u w1 → va_P D cl (wr ++ w1) H1 → va_D A (wr ++ w1) → va_S A s.heap H1 locs1 → W p l e R s m args below meth c H1 locs1 (cells + mc) (slots + ms) Q (F0 m (pc + 3) ls (.int r :: rest))) : W p l e R s m args below meth c H locs cells slots Q (F0 m pc ls st0) := by
  obtain ⟨hPc, hDc, hFc, hpre⟩ := x_cut hE hK hP hD hS hA isC hC hnC
  refine va_calli (va_runSN (As := As) (rest := rest) S0 hM cw ⟨x_blind, fun U hU hW => hpre _ U hU hW⟩ rfl hlen hsz hst (lv_room hW) hdg hf) hS (fun q _ h => hFc q h) hFc (fun r u t H1 locs1 ht hvm hw hB hz1 hk1 hS1 => ?_)
  obtain ⟨w1, h1, h2, h3⟩ := x_back hP hD isC isR hC hR hn hdis hFc ht hB hk1
  exact kk r u w1 H1 locs1 hw h1 h2 h3 hS1
theorem xVi0 {post : Int32 → Unit → Prop} (S0 : CallFix p m c cc nL s args Ts own) (hM : xMi l y wsy rm ad D cl tys (.ref b :: As) wc H.size post (fun (_ : Unit) w => w = wc) mc ms) (cw : CallW R s args own C index y bytes maxL ret wsy rm mc ms n) (hE : xE ad A s s.heap) (hK : va_K D cl tys s) (hP : va_P D cl ws H) (hD : va_D A ws) (hS : va_S A s.heap H locs) (hA : ∀ q, s.heap.size ≤ q → A q) (ci q0 : Nat) {fs : List Value} {qc : vw_C} (hcl : cl[ci]? = some qc) (hqc : qc.1 = C) (hw0 : wc[q0]? = some (b, .inr (ci, fs)))
    (isC : List Nat) (hC : isC.map (fun i => ws[i]?) = wc.map some) (hnC : va_nd isC = true) (hlen : As.length = n) (hsz : ls.size = nL) (hst : st0 = As.reverse ++ .ref b :: rest) (hW : (rest.map fun v => v.category).sum ≤ 8) (hdg : decode cc pc = .ok (.invokevirtual index, 3)) (hf : cells + mc ≤ R.cells ∧ slots + ms ≤ R.slots)
    (kk : ∀ (r : Int32) (H1 : Heap) (locs1 : List Loc), post r () → va_P D cl ws H1 → va_S A s.heap H1 locs1 → W p l e R s m args below meth c H1 locs1 (cells + mc) (slots + ms) Q (F0 m (pc + 3) ls (.int r :: rest))) : W p l e R s m args below meth c H locs cells slots Q (F0 m pc ls st0) := by
  obtain ⟨hPc, hDc, hFc, hpre⟩ := x_cut hE hK hP hD hS hA isC hC hnC
  subst hqc
  refine va_calli (va_runV (As := As) (rest := rest) S0 hM cw ⟨x_blind, va_recv hK hPc hcl hw0, fun U hU hW => hpre _ U hU hW⟩ rfl hlen hsz hst (lv_room hW) hdg hf) hS (fun q _ h => hFc q h) hFc (fun r u t H1 locs1 ht hvm hw hB hz1 hk1 hS1 => ?_)
  exact kk r H1 locs1 hw (x_back0 hP hD isC hC ht hB hk1) hS1
theorem xVl0 {post : Int64 → Unit → Prop} (S0 : CallFix p m c cc nL s args Ts own) (hM : xMl l y wsy rm ad D cl tys (.ref b :: As) wc H.size post (fun (_ : Unit) w => w = wc) mc ms) (cw : CallW R s args own C index y bytes maxL ret wsy rm mc ms n) (hE : xE ad A s s.heap) (hK : va_K D cl tys s) (hP : va_P D cl ws H) (hD : va_D A ws) (hS : va_S A s.heap H locs) (hA : ∀ q, s.heap.size ≤ q → A q) (ci q0 : Nat) {fs : List Value} {qc : vw_C} (hcl : cl[ci]? = some qc) (hqc : qc.1 = C) (hw0 : wc[q0]? = some (b, .inr (ci, fs)))
    (isC : List Nat) (hC : isC.map (fun i => ws[i]?) = wc.map some) (hnC : va_nd isC = true) (hlen : As.length = n) (hsz : ls.size = nL) (hst : st0 = As.reverse ++ .ref b :: rest) (hW : (rest.map fun v => v.category).sum ≤ 8) (hdg : decode cc pc = .ok (.invokevirtual index, 3)) (hf : cells + mc ≤ R.cells ∧ slots + ms ≤ R.slots)
    (kk : ∀ (r : Int64) (H1 : Heap) (locs1 : List Loc), post r () → va_P D cl ws H1 → va_S A s.heap H1 locs1 → W p l e R s m args below meth c H1 locs1 (cells + mc) (slots + ms) Q (F0 m (pc + 3) ls (.long r :: rest))) : W p l e R s m args below meth c H locs cells slots Q (F0 m pc ls st0) := by
  obtain ⟨hPc, hDc, hFc, hpre⟩ := x_cut hE hK hP hD hS hA isC hC hnC
  subst hqc
  refine va_calll (va_runV (As := As) (rest := rest) S0 hM cw ⟨x_blind, va_recv hK hPc hcl hw0, fun U hU hW => hpre _ U hU hW⟩ rfl hlen hsz hst (lv_room hW) hdg hf) hS (fun q _ h => hFc q h) hFc (fun r u t H1 locs1 ht hvm hw hB hz1 hk1 hS1 => ?_)
  exact kk r H1 locs1 hw (x_back0 hP hD isC hC ht hB hk1) hS1
theorem xVd0 {post : UInt64 → Unit → Prop} (S0 : CallFix p m c cc nL s args Ts own) (hM : xMd l y wsy rm ad D cl tys (.ref b :: As) wc H.size post (fun (_ : Unit) w => w = wc) mc ms) (cw : CallW R s args own C index y bytes maxL ret wsy rm mc ms n) (hE : xE ad A s s.heap) (hK : va_K D cl tys s) (hP : va_P D cl ws H) (hD : va_D A ws) (hS : va_S A s.heap H locs) (hA : ∀ q, s.heap.size ≤ q → A q) (ci q0 : Nat) {fs : List Value} {qc : vw_C} (hcl : cl[ci]? = some qc) (hqc : qc.1 = C) (hw0 : wc[q0]? = some (b, .inr (ci, fs)))
    (isC : List Nat) (hC : isC.map (fun i => ws[i]?) = wc.map some) (hnC : va_nd isC = true) (hlen : As.length = n) (hsz : ls.size = nL) (hst : st0 = As.reverse ++ .ref b :: rest) (hW : (rest.map fun v => v.category).sum ≤ 8) (hdg : decode cc pc = .ok (.invokevirtual index, 3)) (hf : cells + mc ≤ R.cells ∧ slots + ms ≤ R.slots)
    (kk : ∀ (r : UInt64) (H1 : Heap) (locs1 : List Loc), post r () → va_P D cl ws H1 → va_S A s.heap H1 locs1 → W p l e R s m args below meth c H1 locs1 (cells + mc) (slots + ms) Q (F0 m (pc + 3) ls (.double r :: rest))) : W p l e R s m args below meth c H locs cells slots Q (F0 m pc ls st0) := by
  obtain ⟨hPc, hDc, hFc, hpre⟩ := x_cut hE hK hP hD hS hA isC hC hnC
  subst hqc
  refine va_calld (va_runV (As := As) (rest := rest) S0 hM cw ⟨x_blind, va_recv hK hPc hcl hw0, fun U hU hW => hpre _ U hU hW⟩ rfl hlen hsz hst (lv_room hW) hdg hf) hS (fun q _ h => hFc q h) hFc (fun r u t H1 locs1 ht hvm hw hB hz1 hk1 hS1 => ?_)
  exact kk r H1 locs1 hw (x_back0 hP hD isC hC ht hB hk1) hS1
theorem xSi0 {post : Int32 → Unit → Prop} (S0 : CallFix p m c cc nL s args Ts own) (hM : xMi l y wsy rm ad D cl tys As wc H.size post (fun (_ : Unit) w => w = wc) mc ms) (cw : CallB R s args own index y bytes maxL ret wsy rm mc ms n ∧ (Cond.static y).before args s = true) (hE : xE ad A s s.heap) (hK : va_K D cl tys s) (hP : va_P D cl ws H) (hD : va_D A ws) (hS : va_S A s.heap H locs) (hA : ∀ q, s.heap.size ≤ q → A q)
    (isC : List Nat) (hC : isC.map (fun i => ws[i]?) = wc.map some) (hnC : va_nd isC = true) (hlen : As.length = n) (hsz : ls.size = nL) (hst : st0 = As.reverse ++ rest) (hW : (rest.map fun v => v.category).sum ≤ 8) (hdg : decode cc pc = .ok (.invokestatic index, 3)) (hf : cells + mc ≤ R.cells ∧ slots + ms ≤ R.slots)
    (kk : ∀ (r : Int32) (H1 : Heap) (locs1 : List Loc), post r () → va_P D cl ws H1 → va_S A s.heap H1 locs1 → W p l e R s m args below meth c H1 locs1 (cells + mc) (slots + ms) Q (F0 m (pc + 3) ls (.int r :: rest))) : W p l e R s m args below meth c H locs cells slots Q (F0 m pc ls st0) := by
  obtain ⟨hPc, hDc, hFc, hpre⟩ := x_cut hE hK hP hD hS hA isC hC hnC
  refine va_calli (va_runS (As := As) (rest := rest) S0 hM cw ⟨x_blind, fun U hU hW => hpre _ U hU hW⟩ rfl hlen hsz hst (lv_room hW) hdg hf) hS (fun q _ h => hFc q h) hFc (fun r u t H1 locs1 ht hvm hw hB hz1 hk1 hS1 => ?_)
  exact kk r H1 locs1 hw (x_back0 hP hD isC hC ht hB hk1) hS1
theorem xSl0 {post : Int64 → Unit → Prop} (S0 : CallFix p m c cc nL s args Ts own) (hM : xMl l y wsy rm ad D cl tys As wc H.size post (fun (_ : Unit) w => w = wc) mc ms) (cw : CallB R s args own index y bytes maxL ret wsy rm mc ms n ∧ (Cond.static y).before args s = true) (hE : xE ad A s s.heap) (hK : va_K D cl tys s) (hP : va_P D cl ws H) (hD : va_D A ws) (hS : va_S A s.heap H locs) (hA : ∀ q, s.heap.size ≤ q → A q)
    (isC : List Nat) (hC : isC.map (fun i => ws[i]?) = wc.map some) (hnC : va_nd isC = true) (hlen : As.length = n) (hsz : ls.size = nL) (hst : st0 = As.reverse ++ rest) (hW : (rest.map fun v => v.category).sum ≤ 8) (hdg : decode cc pc = .ok (.invokestatic index, 3)) (hf : cells + mc ≤ R.cells ∧ slots + ms ≤ R.slots)
    (kk : ∀ (r : Int64) (H1 : Heap) (locs1 : List Loc), post r () → va_P D cl ws H1 → va_S A s.heap H1 locs1 → W p l e R s m args below meth c H1 locs1 (cells + mc) (slots + ms) Q (F0 m (pc + 3) ls (.long r :: rest))) : W p l e R s m args below meth c H locs cells slots Q (F0 m pc ls st0) := by
  obtain ⟨hPc, hDc, hFc, hpre⟩ := x_cut hE hK hP hD hS hA isC hC hnC
  refine va_calll (va_runS (As := As) (rest := rest) S0 hM cw ⟨x_blind, fun U hU hW => hpre _ U hU hW⟩ rfl hlen hsz hst (lv_room hW) hdg hf) hS (fun q _ h => hFc q h) hFc (fun r u t H1 locs1 ht hvm hw hB hz1 hk1 hS1 => ?_)
  exact kk r H1 locs1 hw (x_back0 hP hD isC hC ht hB hk1) hS1
theorem xSf0 {post : UInt32 → Unit → Prop} (S0 : CallFix p m c cc nL s args Ts own) (hM : xMf l y wsy rm ad D cl tys As wc H.size post (fun (_ : Unit) w => w = wc) mc ms) (cw : CallB R s args own index y bytes maxL ret wsy rm mc ms n ∧ (Cond.static y).before args s = true) (hE : xE ad A s s.heap) (hK : va_K D cl tys s) (hP : va_P D cl ws H) (hD : va_D A ws) (hS : va_S A s.heap H locs) (hA : ∀ q, s.heap.size ≤ q → A q)
    (isC : List Nat) (hC : isC.map (fun i => ws[i]?) = wc.map some) (hnC : va_nd isC = true) (hlen : As.length = n) (hsz : ls.size = nL) (hst : st0 = As.reverse ++ rest) (hW : (rest.map fun v => v.category).sum ≤ 8) (hdg : decode cc pc = .ok (.invokestatic index, 3)) (hf : cells + mc ≤ R.cells ∧ slots + ms ≤ R.slots)
    (kk : ∀ (r : UInt32) (H1 : Heap) (locs1 : List Loc), post r () → va_P D cl ws H1 → va_S A s.heap H1 locs1 → W p l e R s m args below meth c H1 locs1 (cells + mc) (slots + ms) Q (F0 m (pc + 3) ls (.float r :: rest))) : W p l e R s m args below meth c H locs cells slots Q (F0 m pc ls st0) := by
  obtain ⟨hPc, hDc, hFc, hpre⟩ := x_cut hE hK hP hD hS hA isC hC hnC
  refine va_callf (va_runS (As := As) (rest := rest) S0 hM cw ⟨x_blind, fun U hU hW => hpre _ U hU hW⟩ rfl hlen hsz hst (lv_room hW) hdg hf) hS (fun q _ h => hFc q h) hFc (fun r u t H1 locs1 ht hvm hw hB hz1 hk1 hS1 => ?_)
  exact kk r H1 locs1 hw (x_back0 hP hD isC hC ht hB hk1) hS1
theorem xNi0 {post : Int32 → Unit → Prop} (S0 : CallFix p m c cc nL s args Ts own) (hM : xMi l y wsy rm ad D cl tys As wc H.size post (fun (_ : Unit) w => w = wc) mc ms) (cw : va_CN R s args own index y host bytes maxL ret wsy rm mc ms n ∧ (Cond.static y).before args s = true ∧ True) (hE : xE ad A s s.heap) (hK : va_K D cl tys s) (hP : va_P D cl ws H) (hD : va_D A ws) (hS : va_S A s.heap H locs) (hA : ∀ q, s.heap.size ≤ q → A q)
    (isC : List Nat) (hC : isC.map (fun i => ws[i]?) = wc.map some) (hnC : va_nd isC = true) (hlen : As.length = n) (hsz : ls.size = nL) (hst : st0 = As.reverse ++ rest) (hW : (rest.map fun v => v.category).sum ≤ 8) (hdg : decode cc pc = .ok (.invokestatic index, 3)) (hf : cells + mc ≤ R.cells ∧ slots + ms ≤ R.slots)
    (kk : ∀ (r : Int32) (H1 : Heap) (locs1 : List Loc), post r () → va_P D cl ws H1 → va_S A s.heap H1 locs1 → W p l e R s m args below meth c H1 locs1 (cells + mc) (slots + ms) Q (F0 m (pc + 3) ls (.int r :: rest))) : W p l e R s m args below meth c H locs cells slots Q (F0 m pc ls st0) := by
  obtain ⟨hPc, hDc, hFc, hpre⟩ := x_cut hE hK hP hD hS hA isC hC hnC
  refine va_calli (va_runSN (As := As) (rest := rest) S0 hM cw ⟨x_blind, fun U hU hW => hpre _ U hU hW⟩ rfl hlen hsz hst (lv_room hW) hdg hf) hS (fun q _ h => hFc q h) hFc (fun r u t H1 locs1 ht hvm hw hB hz1 hk1 hS1 => ?_)
  exact kk r H1 locs1 hw (x_back0 hP hD isC hC ht hB hk1) hS1
theorem xIv {post : S → Prop} (S0 : CallFix p m c cc nL s args Ts own) (hM : xMv l y wsy rm ad D cl tys (.ref b :: As) wc H.size post F mc ms) (cw : CallB R s args own index y bytes maxL none wsy rm mc ms n ∧ y.name = "<init>" ∧ (Cond.instanceMethod y).before args s = true) (hE : xE ad A s s.heap) (hK : va_K D cl tys s) (hP : va_P D cl ws H) (hD : va_D A ws) (hS : va_S A s.heap H locs) (hA : ∀ q, s.heap.size ≤ q → A q)
    (isC isR : List Nat) (hC : isC.map (fun i => ws[i]?) = wc.map some) (hR : isR.map (fun i => ws[i]?) = wr.map some) (hn : va_nd isR = true) (hnC : va_nd isC = true) (hdis : isR.all (fun i => !isC.contains i) = true) (hlen : As.length = n) (hsz : ls.size = nL) (hst : st0 = As.reverse ++ .ref b :: rest) (hW : (rest.map fun v => v.category).sum ≤ 8) (hdg : decode cc pc = .ok (.invokespecial index, 3)) (hf : cells + mc ≤ R.cells ∧ slots + ms ≤ R.slots)
    (kk : ∀ (u : S) (w1 : va_W) (H1 : Heap) (locs1 : List Loc), post u → F u w1 → va_P D cl (wr ++ w1) H1 → va_D A (wr ++ w1) → va_S A s.heap H1 locs1 → W p l e R s m args below meth c H1 locs1 (cells + mc) (slots + ms) Q (F0 m (pc + 3) ls rest)) : W p l e R s m args below meth c H locs cells slots Q (F0 m pc ls st0) := by
  obtain ⟨hPc, hDc, hFc, hpre⟩ := x_cut hE hK hP hD hS hA isC hC hnC
  refine va_callv (va_runI (As := As) (rest := rest) S0 hM cw ⟨x_blind, fun U hU hW => hpre _ U hU hW⟩ rfl hlen hsz hst (lv_room hW) hdg hf) hS (fun q _ h => hFc q h) hFc (fun u t H1 locs1 ht hvm hw hB hz1 hk1 hS1 => ?_)
  obtain ⟨w1, h1, h2, h3⟩ := x_back hP hD isC isR hC hR hn hdis hFc ht hB hk1
  exact kk u w1 H1 locs1 hw h1 h2 h3 hS1
theorem xJv {post : S → Prop} (S0 : CallFix p m c cc nL s args Ts own) (hM : xMv l y wsy rm ad D cl tys (.ref b :: As) wc H.size post F mc ms) (cw : va_CN R s args own index y host bytes maxL none wsy rm mc ms n ∧ y.name = "<init>" ∧ (Cond.instanceMethod y).before args s = true) (hE : xE ad A s s.heap) (hK : va_K D cl tys s) (hP : va_P D cl ws H) (hD : va_D A ws) (hS : va_S A s.heap H locs) (hA : ∀ q, s.heap.size ≤ q → A q)
    (isC isR : List Nat) (hC : isC.map (fun i => ws[i]?) = wc.map some) (hR : isR.map (fun i => ws[i]?) = wr.map some) (hn : va_nd isR = true) (hnC : va_nd isC = true) (hdis : isR.all (fun i => !isC.contains i) = true) (hlen : As.length = n) (hsz : ls.size = nL) (hst : st0 = As.reverse ++ .ref b :: rest) (hW : (rest.map fun v => v.category).sum ≤ 8) (hdg : decode cc pc = .ok (.invokespecial index, 3)) (hf : cells + mc ≤ R.cells ∧ slots + ms ≤ R.slots)
    (kk : ∀ (u : S) (w1 : va_W) (H1 : Heap) (locs1 : List Loc), post u → F u w1 → va_P D cl (wr ++ w1) H1 → va_D A (wr ++ w1) → va_S A s.heap H1 locs1 → W p l e R s m args below meth c H1 locs1 (cells + mc) (slots + ms) Q (F0 m (pc + 3) ls rest)) : W p l e R s m args below meth c H locs cells slots Q (F0 m pc ls st0) := by
  obtain ⟨hPc, hDc, hFc, hpre⟩ := x_cut hE hK hP hD hS hA isC hC hnC
  refine va_callv (va_runIN (As := As) (rest := rest) S0 hM cw ⟨x_blind, fun U hU hW => hpre _ U hU hW⟩ rfl hlen hsz hst (lv_room hW) hdg hf) hS (fun q _ h => hFc q h) hFc (fun u t H1 locs1 ht hvm hw hB hz1 hk1 hS1 => ?_)
  obtain ⟨w1, h1, h2, h3⟩ := x_back hP hD isC isR hC hR hn hdis hFc ht hB hk1
  exact kk u w1 H1 locs1 hw h1 h2 h3 hS1
theorem x_same {cA c0 : ClassId} {ty : FieldType} (hK : va_K D cl tys s) (hK9 : va_K D cl (tys ++ [(cA, ty)]) s) (t0 : Nat) (ht : tys[t0]? = some (c0, ty)) : cA = c0 := by
  have h1 := (hK.2 t0 _ ht).2
  have h2 := (hK9.2 tys.length (cA, ty) (by simp)).2
  cases ty with
  | object C =>
    obtain ⟨_, _, _, _, _, h3⟩ := h1
    obtain ⟨_, _, _, _, _, h4⟩ := h2
    exact Option.some.inj (h4.symm.trans h3)
  | _ => exact Option.some.inj (Eq.trans (Eq.symm h2) h1)
end XB
/-- the array classes that the worlds speak of -/
abbrev xT (cy : Nat → ClassId) : List (ClassId × FieldType) := [(cy 0, .int), (cy 1, .long), (cy 2, .byte), (cy 3, .boolean), (cy 4, .object "KnapsackCore$Load"), (cy 5, .object "KnapsackCore$State")]
