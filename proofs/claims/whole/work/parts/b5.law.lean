/-! the law's world: the object, the reference, the row of one long -/
theorem nd_range (n k : Nat) : va_nd (List.range' k n) = true := by
  induction n generalizing k with
  | zero => rfl
  | succ n ih =>
    show (decide (k ∉ List.range' (k + 1) n) && va_nd (List.range' (k + 1) n)) = true
    rw [ih (k + 1), Bool.and_true, decide_eq_true_eq]
    intro h
    have := (List.mem_range'_1.mp h).1
    omega
theorem at_range' : ∀ (W P : va_W), (List.range' P.length W.length).map (fun i => (P ++ W)[i]?) = W.map some
  | [], _ => rfl
  | x :: W, P => by
    have ih := at_range' W (P ++ [x])
    rw [List.length_append, List.append_assoc] at ih
    have h0 : (P ++ x :: W)[P.length]? = some x := by
      rw [List.getElem?_append_right (Nat.le_refl _), Nat.sub_self]
      rfl
    show (P ++ x :: W)[P.length]? :: (List.range' (P.length + 1) W.length).map (fun i => (P ++ x :: W)[i]?) = some x :: W.map some
    rw [h0]
    exact congrArg (some x :: ·) ih
theorem at_range (W : va_W) : (List.range' 0 W.length).map (fun i => W[i]?) = W.map some := at_range' W []
theorem w_sw (A B C : va_W) : wle (A ++ (B ++ C)) (B ++ (A ++ C)) := by
  refine wle_perm ?_
  rw [← List.append_assoc, ← List.append_assoc]
  exact List.Perm.append_right C List.perm_append_comm
def lO (cy : Nat → ClassId) (a_o : Nat) (o : Nat → Int64) : va_W := [(a_o, .inl (cy 1, 1, .inr (.inl o)))]
def LW (cy : Nat → ClassId) (a_x a_m a_o : Nat) (σ : ZS) (ζ : ZM) (o : Nat → Int64) (w : va_W) : Prop := ∃ wx wm, w = wx ++ (wm ++ lO cy a_o o) ∧ XW cy a_x σ wx ∧ MW cy a_m ζ wm
theorem LW_x {cy : Nat → ClassId} {a_x a_m a_o : Nat} {σ : ZS} {ζ : ZM} {o : Nat → Int64} {w : va_W} (h : LW cy a_x a_m a_o σ ζ o w) : ∃ fs : List Value, w[0]? = some (a_x, .inr (6, fs)) := by
  obtain ⟨wx, wm, rfl, hx, hm⟩ := h
  obtain ⟨fs, e⟩ := XW_at hx
  refine ⟨fs, ?_⟩
  rw [List.getElem?_append_left (List.getElem?_eq_some_iff.mp e).1]
  exact e
theorem LW_m {cy : Nat → ClassId} {a_x a_m a_o : Nat} {σ : ZS} {ζ : ZM} {o : Nat → Int64} {w : va_W} (h : LW cy a_x a_m a_o σ ζ o w) : ∃ (k : Nat) (fs : List Value), w[k]? = some (a_m, .inr (7, fs)) := by
  obtain ⟨wx, wm, rfl, hx, hm⟩ := h
  obtain ⟨fs, e⟩ := MW_at hm
  refine ⟨wx.length, fs, ?_⟩
  rw [List.getElem?_append_right (Nat.le_refl _), Nat.sub_self, List.getElem?_append_left (List.getElem?_eq_some_iff.mp e).1]
  exact e
theorem LW_o {cy : Nat → ClassId} {a_x a_m a_o : Nat} {σ : ZS} {ζ : ZM} {o : Nat → Int64} {w : va_W} (h : LW cy a_x a_m a_o σ ζ o w) : ∃ k : Nat, w[k]? = some (a_o, .inl (cy 1, 1, .inr (.inl o))) := by
  obtain ⟨wx, wm, rfl, hx, hm⟩ := h
  refine ⟨wx.length + wm.length, ?_⟩
  rw [List.getElem?_append_right (Nat.le_add_right _ _), Nat.add_sub_cancel_left, List.getElem?_append_right (Nat.le_refl _), Nat.sub_self]
  rfl
theorem lift_xi {l : Launch} {y : MethodName} {wsy : List Cond} {rm : Room} {ad : (Nat → Nat) × (Nat → Nat)} {D : va_G} {cl : List vw_C} {tys : List (ClassId × FieldType)} {av : List Value} {wx wm : va_W} {sz : Nat} {post : Int32 → ZS → Prop} {mc ms : Nat} {cy : Nat → ClassId} {a_x a_m a_o : Nat} {ζ : ZM} {o : Nat → Int64} (hM : xMi l y wsy rm ad D cl tys av wx sz post (fun σ' w => XW cy a_x σ' w) mc ms) (hm : MW cy a_m ζ wm) : xMi l y wsy rm ad D cl tys av (wx ++ (wm ++ lO cy a_o o)) sz post (fun σ' w => LW cy a_x a_m a_o σ' ζ o w) mc ms :=
  xF_i hM (List.range' 0 wx.length) [] (at_range wx) rfl rfl (nd_range _ _) rfl (fun _ u w1 hp hF => ⟨u, w1 ++ (wm ++ lO cy a_o o), hp, ⟨w1, wm, rfl, hF, hm⟩, wle.rf _⟩)
theorem lift_mi {l : Launch} {y : MethodName} {wsy : List Cond} {rm : Room} {ad : (Nat → Nat) × (Nat → Nat)} {D : va_G} {cl : List vw_C} {tys : List (ClassId × FieldType)} {av : List Value} {wx wm : va_W} {sz : Nat} {post : Int32 → ZM → Prop} {mc ms : Nat} {cy : Nat → ClassId} {a_x a_m a_o : Nat} {σ : ZS} {o : Nat → Int64} (hM : xMi l y wsy rm ad D cl tys av wm sz post (fun ζ' w => MW cy a_m ζ' w) mc ms) (hx : XW cy a_x σ wx) : xMi l y wsy rm ad D cl tys av (wx ++ (wm ++ lO cy a_o o)) sz post (fun ζ' w => LW cy a_x a_m a_o σ ζ' o w) mc ms := by
  have h1 : xMi l y wsy rm ad D cl tys av (wm ++ (wx ++ lO cy a_o o)) sz post (fun ζ' w => LW cy a_x a_m a_o σ ζ' o w) mc ms :=
    xF_i hM (List.range' 0 wm.length) [] (at_range wm) rfl rfl (nd_range _ _) rfl (fun _ u w1 hp hF => ⟨u, wx ++ (w1 ++ lO cy a_o o), hp, ⟨wx, w1, rfl, hx, hF⟩, w_sw _ _ _⟩)
  exact xG_i h1 (w_sw _ _ _) (fun _ u w1 h1 h2 => ⟨u, w1, h1, h2, wle.rf _⟩)
theorem lift_xl {l : Launch} {y : MethodName} {wsy : List Cond} {rm : Room} {ad : (Nat → Nat) × (Nat → Nat)} {D : va_G} {cl : List vw_C} {tys : List (ClassId × FieldType)} {av : List Value} {wx wm : va_W} {sz : Nat} {post : Int64 → ZS → Prop} {mc ms : Nat} {cy : Nat → ClassId} {a_x a_m a_o : Nat} {ζ : ZM} {o : Nat → Int64} (hM : xMl l y wsy rm ad D cl tys av wx sz post (fun σ' w => XW cy a_x σ' w) mc ms) (hm : MW cy a_m ζ wm) : xMl l y wsy rm ad D cl tys av (wx ++ (wm ++ lO cy a_o o)) sz post (fun σ' w => LW cy a_x a_m a_o σ' ζ o w) mc ms :=
  xF_l hM (List.range' 0 wx.length) [] (at_range wx) rfl rfl (nd_range _ _) rfl (fun _ u w1 hp hF => ⟨u, w1 ++ (wm ++ lO cy a_o o), hp, ⟨w1, wm, rfl, hF, hm⟩, wle.rf _⟩)
theorem lift_ml {l : Launch} {y : MethodName} {wsy : List Cond} {rm : Room} {ad : (Nat → Nat) × (Nat → Nat)} {D : va_G} {cl : List vw_C} {tys : List (ClassId × FieldType)} {av : List Value} {wx wm : va_W} {sz : Nat} {post : Int64 → ZM → Prop} {mc ms : Nat} {cy : Nat → ClassId} {a_x a_m a_o : Nat} {σ : ZS} {o : Nat → Int64} (hM : xMl l y wsy rm ad D cl tys av wm sz post (fun ζ' w => MW cy a_m ζ' w) mc ms) (hx : XW cy a_x σ wx) : xMl l y wsy rm ad D cl tys av (wx ++ (wm ++ lO cy a_o o)) sz post (fun ζ' w => LW cy a_x a_m a_o σ ζ' o w) mc ms := by
  have h1 : xMl l y wsy rm ad D cl tys av (wm ++ (wx ++ lO cy a_o o)) sz post (fun ζ' w => LW cy a_x a_m a_o σ ζ' o w) mc ms :=
    xF_l hM (List.range' 0 wm.length) [] (at_range wm) rfl rfl (nd_range _ _) rfl (fun _ u w1 hp hF => ⟨u, wx ++ (w1 ++ lO cy a_o o), hp, ⟨wx, w1, rfl, hx, hF⟩, w_sw _ _ _⟩)
  exact xG_l h1 (w_sw _ _ _) (fun _ u w1 h1 h2 => ⟨u, w1, h1, h2, wle.rf _⟩)
section LC
variable {p : Program} {l : Launch} {e : Env} {R : Room} {s : State} {m : MethodId} {args : Array Value} {below : List Frame} {meth : Method} {c : Code} {H : Heap} {locs : List Loc} {cells slots : Nat} {Q : State → Prop}
variable {cc : ByteArray} {pc : Nat} {ls : Array Slot} {rest st0 : List Value} {ad : (Nat → Nat) × (Nat → Nat)} {D : va_G} {cl : List vw_C} {A : Nat → Prop} {tys : List (ClassId × FieldType)} {ws : va_W}
variable {S : Type} {F : S → va_W → Prop} {y : MethodName} {bytes : ByteArray} {maxL nL mc ms n index : Nat} {ret : Option FieldType} {wsy Ts : List Cond} {rm : Room} {own C : String} {b : Addr} {As : List Value}
theorem LVi {post : Int32 → S → Prop} (S0 : CallFix p m c cc nL s args Ts own) (hM : xMi l y wsy rm ad D cl tys (.ref b :: As) ws H.size post F mc ms) (cw : CallW R s args own C index y bytes maxL ret wsy rm mc ms n) (hE : xE ad A s s.heap) (hK : va_K D cl tys s) (hP : va_P D cl ws H) (hD : va_D A ws) (hS : va_S A s.heap H locs) (hA : ∀ q, s.heap.size ≤ q → A q) (ci : Nat) {q0 : Nat} {fs : List Value} {qc : vw_C} (hcl : cl[ci]? = some qc) (hqc : qc.1 = C) (hw0 : ws[q0]? = some (b, .inr (ci, fs))) (hlen : As.length = n) (hsz : ls.size = nL) (hst : st0 = As.reverse ++ .ref b :: rest) (hW : (rest.map fun v => v.category).sum ≤ 8) (hdg : decode cc pc = .ok (.invokevirtual index, 3)) (hf : cells + mc ≤ R.cells ∧ slots + ms ≤ R.slots)
    (kk : ∀ (r : Int32) (u : S) (w1 : va_W) (H1 : Heap) (locs1 : List Loc), post r u → F u w1 → va_P D cl w1 H1 → va_D A w1 → va_S A s.heap H1 locs1 → W p l e R s m args below meth c H1 locs1 (cells + mc) (slots + ms) Q (F0 m (pc + 3) ls (.int r :: rest))) : W p l e R s m args below meth c H locs cells slots Q (F0 m pc ls st0) :=
  xVi (wr := []) S0 hM cw hE hK hP hD hS hA ci q0 hcl hqc hw0 (List.range' 0 ws.length) [] (at_range ws) rfl rfl (nd_range _ _) rfl hlen hsz hst hW hdg hf (fun r u w1 H1 locs1 h1 h2 h3 h4 h5 => kk r u w1 H1 locs1 h1 h2 h3 h4 h5)
theorem LVl {post : Int64 → S → Prop} (S0 : CallFix p m c cc nL s args Ts own) (hM : xMl l y wsy rm ad D cl tys (.ref b :: As) ws H.size post F mc ms) (cw : CallW R s args own C index y bytes maxL ret wsy rm mc ms n) (hE : xE ad A s s.heap) (hK : va_K D cl tys s) (hP : va_P D cl ws H) (hD : va_D A ws) (hS : va_S A s.heap H locs) (hA : ∀ q, s.heap.size ≤ q → A q) (ci : Nat) {q0 : Nat} {fs : List Value} {qc : vw_C} (hcl : cl[ci]? = some qc) (hqc : qc.1 = C) (hw0 : ws[q0]? = some (b, .inr (ci, fs))) (hlen : As.length = n) (hsz : ls.size = nL) (hst : st0 = As.reverse ++ .ref b :: rest) (hW : (rest.map fun v => v.category).sum ≤ 8) (hdg : decode cc pc = .ok (.invokevirtual index, 3)) (hf : cells + mc ≤ R.cells ∧ slots + ms ≤ R.slots)
    (kk : ∀ (r : Int64) (u : S) (w1 : va_W) (H1 : Heap) (locs1 : List Loc), post r u → F u w1 → va_P D cl w1 H1 → va_D A w1 → va_S A s.heap H1 locs1 → W p l e R s m args below meth c H1 locs1 (cells + mc) (slots + ms) Q (F0 m (pc + 3) ls (.long r :: rest))) : W p l e R s m args below meth c H locs cells slots Q (F0 m pc ls st0) :=
  xVl (wr := []) S0 hM cw hE hK hP hD hS hA ci q0 hcl hqc hw0 (List.range' 0 ws.length) [] (at_range ws) rfl rfl (nd_range _ _) rfl hlen hsz hst hW hdg hf (fun r u w1 H1 locs1 h1 h2 h3 h4 h5 => kk r u w1 H1 locs1 h1 h2 h3 h4 h5)
/-- a test against 0, as a number -/
theorem lv_bool (hexec : p.tables.exec = Jvm.exec) (hb : c.code = cc) {v : Int32} (d0 : decode cc pc = .ok (.ifCond .eq 7, 3)) (d3 : decode cc (pc + 3) = .ok (.iconst 1, 1)) (d4 : decode cc (pc + 4) = .ok (.goto 4, 3)) (d7 : decode cc (pc + 7) = .ok (.iconst 0, 1)) (k : W p l e R s m args below meth c H locs cells slots Q (F0 m (pc + 8) ls (.int (if v = 0 then 0 else 1) :: rest))) : W p l e R s m args below meth c H locs cells slots Q (F0 m pc ls (.int v :: rest)) := by
  refine lv_if_eq (tgt := pc + 7) hexec hb d0 (by omega) (fun z => ?_) (fun z => ?_)
  · refine lv_iconst (v := 0) hexec hb d7 (by decide) ?_
    rw [if_pos z] at k
    exact k
  · refine lv_iconst (v := 1) hexec hb d3 (by decide) ?_
    refine lv_goto (tgt := pc + 8) hexec hb d4 (by omega) ?_
    rw [if_neg z] at k
    exact k
end LC
theorem xEx.nar {A B : Nat → Prop} {s : State} {H : Heap} (h : xEx A s H) (hAB : ∀ q, B q → A q) : xEx B s H := ⟨⟨h.1.1.narrow hAB, h.1.2.narrow hAB⟩, h.2⟩
def xMx (l : Launch) (y : MethodName) (wsy : List Cond) (rm : Room) (ad : (Nat → Nat) × (Nat → Nat)) (D : va_G) (cl : List vw_C) (tys : List (ClassId × FieldType)) (av : List Value) (wc : va_W) (sz : Nat) {S : Type} (post : Int32 → S → Prop) (F : S → va_W → Prop) (mc ms : Nat) : Prop :=
  Met l y wsy rm (va_Pc av (xPreX ad D cl tys wc sz)) (va_Qi post (xB D cl tys (va_A wc sz) F) (va_A wc sz)) mc ms (va_A wc sz)
theorem xF_x {l : Launch} {y : MethodName} {wsy : List Cond} {rm : Room} {ad : (Nat → Nat) × (Nat → Nat)} {D : va_G} {cl : List vw_C} {tys : List (ClassId × FieldType)} {av : List Value} {wc X pl : va_W} {sz : Nat} {S S' : Type} {post : Int32 → S → Prop} {F : S → va_W → Prop} {post' : Int32 → S' → Prop} {F' : S' → va_W → Prop} {mc ms : Nat} (hM : xMx l y wsy rm ad D cl tys av wc sz post F mc ms) (isC isR : List Nat) (hC : isC.map (fun i => X[i]?) = wc.map some) (hR : isR.map (fun i => X[i]?) = (isR.filterMap (fun i => X[i]?)).map some) (hn : va_nd isR = true) (hnC : va_nd isC = true) (hdis : isR.all (fun i => !isC.contains i) = true)
    (conv : ∀ r u w1, post r u → F u w1 → ∃ u' w2, post' r u' ∧ F' u' w2 ∧ wle w2 ((isR.filterMap (fun i => X[i]?) ++ w1) ++ pl)) : xMx l y wsy rm ad D cl tys av (X ++ pl) sz post' F' mc ms := by
  have hA : ∀ q, va_A wc sz q → va_A (X ++ pl) sz q := fun q hq => by
    refine (wle_part (pl := pl) isC hnC hC).A ?_
    rcases hq with ⟨k, e, hk⟩ | hq
    · exact Or.inl ⟨k, e, by rw [List.getElem?_append_left (List.getElem?_eq_some_iff.mp hk).1]; exact hk⟩
    · exact Or.inr hq
  unfold xMx at hM ⊢
  refine xMet_imp hM (fun a s h => ⟨h.1, h.2.1.part isC hC hnC, h.2.2.nar hA⟩) (fun a s o t h hq => ?_) hA
  obtain ⟨⟨r, u, ho, hp, w1, hF1, hP1, hK1, hD1⟩, hFF⟩ := hq
  obtain ⟨u', w2, k1, k2, k3⟩ := conv r u w1 hp hF1
  obtain ⟨j1, j2, j3, j4⟩ := xB_frame isC isR hC hR hn hdis h.2.1 hP1 hK1 hD1 hFF k3 hnC
  exact ⟨⟨r, u', ho, k1, w2, k2, j1, j2, j3⟩, j4⟩
theorem xG_x {l : Launch} {y : MethodName} {wsy : List Cond} {rm : Room} {ad : (Nat → Nat) × (Nat → Nat)} {D : va_G} {cl : List vw_C} {tys : List (ClassId × FieldType)} {av : List Value} {W1 W2 : va_W} {sz : Nat} {S S' : Type} {post : Int32 → S → Prop} {F : S → va_W → Prop} {post' : Int32 → S' → Prop} {F' : S' → va_W → Prop} {mc ms : Nat} (hM : xMx l y wsy rm ad D cl tys av W1 sz post F mc ms) (h12 : wle W1 W2) (conv : ∀ r u w1, post r u → F u w1 → ∃ u' w2, post' r u' ∧ F' u' w2 ∧ wle w2 w1) : xMx l y wsy rm ad D cl tys av W2 sz post' F' mc ms := by
  unfold xMx at hM ⊢
  refine xMet_imp hM (fun a s h => ⟨h.1, xPre.le h12 h.2.1, h.2.2.nar (fun q hq => h12.A hq)⟩) (fun a s o t h hq => ?_) (fun q hq => h12.A hq)
  obtain ⟨⟨r, u, ho, hp, w1, hF1, hP1, hK1, hD1⟩, hFF⟩ := hq
  obtain ⟨u', w2, k1, k2, k3⟩ := conv r u w1 hp hF1
  exact ⟨⟨r, u', ho, k1, w2, k2, k3.P hP1, hK1, (k3.D hD1).weaken (fun k q _ hq => h12.A hq)⟩, hFF.1, fun q hq hq2 => hFF.2 q hq (fun z => hq2 (h12.A z))⟩
