/-! contracts over more cells than they need -/
/-- the cells of one world are among those of another -/
def wle (W W' : va_W) : Prop := ∃ g : Nat → Nat, (∀ k q, W[k]? = some q → W'[g k]? = some q) ∧ ∀ i j, i < W.length → j < W.length → g i = g j → i = j
theorem wle.rf (W : va_W) : wle W W := ⟨fun k => k, fun _ _ h => h, fun _ _ _ _ h => h⟩
theorem wle.P {W W' : va_W} {D : va_G} {cl : List vw_C} {H : Heap} (h : wle W W') (hP : va_P D cl W' H) : va_P D cl W H := by
  obtain ⟨g, h1, h2⟩ := h
  exact hP.by g h1
theorem wle.D {W W' : va_W} {A : Nat → Prop} (h : wle W W') (hD : va_D A W') : va_D A W := by
  obtain ⟨g, h1, h2⟩ := h
  exact hD.by g h1 h2
theorem wle.A {W W' : va_W} {sz q : Nat} (h : wle W W') (hA : va_A W sz q) : va_A W' sz q := by
  obtain ⟨g, h1, h2⟩ := h
  rcases hA with ⟨k, e, hk⟩ | hA
  · exact Or.inl ⟨g k, e, h1 k _ hk⟩
  · exact Or.inr hA
theorem wle.tr {W1 W2 W3 : va_W} (h : wle W1 W2) (h' : wle W2 W3) : wle W1 W3 := by
  obtain ⟨g, h1, h2⟩ := h
  obtain ⟨g', h1', h2'⟩ := h'
  have lt : ∀ i, i < W1.length → g i < W2.length := fun i hi => (List.getElem?_eq_some_iff.mp (h1 i _ (List.getElem?_eq_getElem hi))).1
  exact ⟨fun k => g' (g k), fun k q hk => h1' _ _ (h1 k q hk), fun i j hi hj e => h2 i j hi hj (h2' _ _ (lt i hi) (lt j hj) e)⟩
theorem wle_perm {W W' : va_W} (h : W.Perm W') : wle W W' := by
  induction h with
  | nil => exact wle.rf _
  | cons x _ ih =>
    obtain ⟨g, h1, h2⟩ := ih
    refine ⟨fun k => match k with
      | 0 => 0
      | k + 1 => g k + 1, fun k q hk => ?_, fun i j hi hj e => ?_⟩
    · cases k with
      | zero => exact hk
      | succ k =>
        rw [List.getElem?_cons_succ] at hk
        show (x :: _)[g k + 1]? = some q
        rw [List.getElem?_cons_succ]
        exact h1 k q hk
    · cases i with
      | zero =>
        cases j with
        | zero => rfl
        | succ j => exact absurd (show 0 = g j + 1 from e) (by omega)
      | succ i =>
        cases j with
        | zero => exact absurd (show g i + 1 = 0 from e) (by omega)
        | succ j =>
          rw [List.length_cons] at hi hj
          have e' : g i + 1 = g j + 1 := e
          have := h2 i j (by omega) (by omega) (by omega)
          omega
  | swap x y l =>
    refine ⟨fun k => match k with
      | 0 => 1
      | 1 => 0
      | k + 2 => k + 2, fun k q hk => ?_, fun i j hi hj e => ?_⟩
    · match k, hk with
      | 0, hk => exact hk
      | 1, hk => exact hk
      | k + 2, hk => exact hk
    · match i, j, e with
      | 0, 0, _ => rfl
      | 0, 1, e => exact absurd (show 1 = 0 from e) (by omega)
      | 0, j + 2, e => exact absurd (show 1 = j + 2 from e) (by omega)
      | 1, 0, e => exact absurd (show 0 = 1 from e) (by omega)
      | 1, 1, _ => rfl
      | 1, j + 2, e => exact absurd (show 0 = j + 2 from e) (by omega)
      | i + 2, 0, e => exact absurd (show i + 2 = 1 from e) (by omega)
      | i + 2, 1, e => exact absurd (show i + 2 = 0 from e) (by omega)
      | i + 2, j + 2, e => exact e
  | trans _ _ ih1 ih2 => exact ih1.tr ih2
theorem wle_part {X cx pl : va_W} (is : List Nat) (hn : va_nd is = true) (hs : is.map (fun i => X[i]?) = cx.map some) : wle (cx ++ pl) (X ++ pl) := by
  refine ⟨fun k => if k < cx.length then (is[k]?).getD 0 else X.length + (k - cx.length), fun k q hk => va_part is hs k q hk, fun i j hi hj e => ?_⟩
  -- apart, as the places are
  have hl : is.length = cx.length := by
    have := congrArg List.length hs
    rw [List.length_map, List.length_map] at this
    exact this
  have at' : ∀ k, k < cx.length → ∃ m, is[k]? = some m ∧ m < X.length := fun k hk => by
    have h1 : (is.map (fun i => X[i]?))[k]? = some (some cx[k]) := by rw [hs, List.getElem?_map, List.getElem?_eq_getElem hk]; rfl
    rw [List.getElem?_map] at h1
    cases hi : is[k]? with
    | none => rw [hi] at h1; cases h1
    | some m =>
      rw [hi] at h1
      exact ⟨m, rfl, (List.getElem?_eq_some_iff.mp (Option.some.inj h1)).1⟩
  dsimp only at e
  by_cases h1 : i < cx.length
  · obtain ⟨m, hm, hmX⟩ := at' i h1
    by_cases h2 : j < cx.length
    · obtain ⟨m', hm', _⟩ := at' j h2
      rw [if_pos h1, if_pos h2, hm, hm'] at e
      have e' : m = m' := e
      subst e'
      exact va_nd_inj _ hn _ _ _ hm hm'
    · rw [if_pos h1, if_neg h2, hm] at e
      have e' : m = X.length + (j - cx.length) := e
      omega
  · by_cases h2 : j < cx.length
    · obtain ⟨m', hm', hmX⟩ := at' j h2
      rw [if_neg h1, if_pos h2, hm'] at e
      have e' : X.length + (i - cx.length) = m' := e
      omega
    · rw [if_neg h1, if_neg h2] at e
      omega
theorem xE.nar {ad : (Nat → Nat) × (Nat → Nat)} {A B : Nat → Prop} {s : State} {H : Heap} (h : xE ad A s H) (hAB : ∀ q, B q → A q) : xE ad B s H := by
  obtain ⟨h1, h2, h3, h4, h5, h10, h11⟩ := h
  exact ⟨h1, h2.narrow hAB, h3, h4, h5, h10.narrow hAB, h11.narrow hAB⟩
theorem xMet_imp {l : Launch} {y : MethodName} {ws : List Cond} {rm : Room} {Pc Pc' : Array Value → State → Prop} {Qc Qc' : Array Value → State → Outcome → State → Prop} {mc ms : Nat} {free free' : Addr → Prop} (h : Met l y ws rm Pc Qc mc ms free) (hP : ∀ a s, Pc' a s → Pc a s) (hQ : ∀ a s o t, Pc' a s → Qc a s o t → Qc' a s o t) (hf : ∀ q, free q → free' q) : Met l y ws rm Pc' Qc' mc ms free' := by
  intro p e ha hc hk s m args below hfr happ hPs hKs
  obtain ⟨n, o, h1, h2, h3, hq, L, hL, hLf⟩ := h p e ha hc hk s m args below hfr happ (hP _ _ hPs) hKs
  exact ⟨n, o, h1, h2, h3, hQ _ _ _ _ hPs hq, L, hL, fun q hq' => hf _ (hLf q hq')⟩
theorem xPre.le {ad : (Nat → Nat) × (Nat → Nat)} {D : va_G} {cl : List vw_C} {tys : List (ClassId × FieldType)} {W W' : va_W} {sz : Nat} {U : State} (h : wle W W') (hp : xPre ad D cl tys W' sz U) : xPre ad D cl tys W sz U := by
  obtain ⟨h1, h2, h3, h4, h5⟩ := hp
  exact ⟨h1, h.P h2, h3, h.D h4, h5.nar (fun q hq => h.A hq)⟩
/-- a world of a contract's cells and others: what comes back stands beside the rest -/
theorem xB_frame {ad : (Nat → Nat) × (Nat → Nat)} {D : va_G} {cl : List vw_C} {tys : List (ClassId × FieldType)} {X wc pl w1 w2 : va_W} {sz : Nat} {s t : State} (isC isR : List Nat) (hC : isC.map (fun i => X[i]?) = wc.map some) (hR : isR.map (fun i => X[i]?) = (isR.filterMap (fun i => X[i]?)).map some) (hn : va_nd isR = true) (hdis : isR.all (fun i => !isC.contains i) = true) (hpre : xPre ad D cl tys (X ++ pl) sz s) (hP1 : va_P D cl w1 t.heap) (hK1 : va_K D cl tys t) (hD1 : va_D (va_A wc sz) w1) (hF : va_F (va_A wc sz) s t) (hle : wle w2 ((isR.filterMap (fun i => X[i]?) ++ w1) ++ pl)) (hnC : va_nd isC = true) :
    va_P D cl w2 t.heap ∧ va_K D cl tys t ∧ va_D (va_A (X ++ pl) sz) w2 ∧ va_F (va_A (X ++ pl) sz) s t := by
  obtain ⟨h1, h2, h3, h4, h5⟩ := hpre
  subst h1
  have hsub : wle (wc ++ pl) (X ++ pl) := wle_part isC hnC hC
  have hA : ∀ q, va_A wc s.heap.size q → va_A (X ++ pl) s.heap.size q := fun q hq => by
    refine hsub.A ?_
    rcases hq with ⟨k, e, hk⟩ | hq
    · exact Or.inl ⟨k, e, by rw [List.getElem?_append_left (List.getElem?_eq_some_iff.mp hk).1]; exact hk⟩
    · exact Or.inr hq
  have hdis' : ∀ i ∈ isR, i ∉ isC := by
    intro i hi hc
    have h2 := List.all_eq_true.mp hdis i hi
    rw [List.contains_iff_mem.mpr hc] at h2
    cases h2
  obtain ⟨j1, j2⟩ := va_joinQ h2 (h4.self (sz := s.heap.size)) isC isR hC hR hn hdis' hF.2 hA hP1 hD1
  exact ⟨hle.P j1, hK1, hle.D j2, hF.1, fun q hq hq2 => hF.2 q hq (fun z => hq2 (hA q z))⟩
theorem xPre.part {ad : (Nat → Nat) × (Nat → Nat)} {D : va_G} {cl : List vw_C} {tys : List (ClassId × FieldType)} {X wc pl : va_W} {sz : Nat} {U : State} (isC : List Nat) (hC : isC.map (fun i => X[i]?) = wc.map some) (hnC : va_nd isC = true) (hp : xPre ad D cl tys (X ++ pl) sz U) : xPre ad D cl tys wc sz U := by
  refine xPre.le ((?_ : wle wc (wc ++ pl)).tr (wle_part isC hnC hC)) hp
  exact ⟨fun k => k, fun k q hk => by rw [List.getElem?_append_left (List.getElem?_eq_some_iff.mp hk).1]; exact hk, fun _ _ _ _ h => h⟩
theorem xF_i {l : Launch} {y : MethodName} {wsy : List Cond} {rm : Room} {ad : (Nat → Nat) × (Nat → Nat)} {D : va_G} {cl : List vw_C} {tys : List (ClassId × FieldType)} {av : List Value} {wc X pl : va_W} {sz : Nat} {S S' : Type} {post : Int32 → S → Prop} {F : S → va_W → Prop} {post' : Int32 → S' → Prop} {F' : S' → va_W → Prop} {mc ms : Nat} (hM : xMi l y wsy rm ad D cl tys av wc sz post F mc ms) (isC isR : List Nat) (hC : isC.map (fun i => X[i]?) = wc.map some) (hR : isR.map (fun i => X[i]?) = (isR.filterMap (fun i => X[i]?)).map some) (hn : va_nd isR = true) (hnC : va_nd isC = true) (hdis : isR.all (fun i => !isC.contains i) = true)
    (conv : ∀ r u w1, post r u → F u w1 → ∃ u' w2, post' r u' ∧ F' u' w2 ∧ wle w2 ((isR.filterMap (fun i => X[i]?) ++ w1) ++ pl)) : xMi l y wsy rm ad D cl tys av (X ++ pl) sz post' F' mc ms := by
  unfold xMi at hM ⊢
  refine xMet_imp hM (fun a s h => ⟨h.1, h.2.part isC hC hnC⟩) (fun a s o t h hq => ?_) (fun q hq => ?_)
  · obtain ⟨⟨r, u, ho, hp, w1, hF1, hP1, hK1, hD1⟩, hFF⟩ := hq
    obtain ⟨u', w2, k1, k2, k3⟩ := conv r u w1 hp hF1
    obtain ⟨j1, j2, j3, j4⟩ := xB_frame isC isR hC hR hn hdis h.2 hP1 hK1 hD1 hFF k3 hnC
    exact ⟨⟨r, u', ho, k1, w2, k2, j1, j2, j3⟩, j4⟩
  · refine (wle_part (pl := pl) isC hnC hC).A ?_
    rcases hq with ⟨k, e, hk⟩ | hq
    · exact Or.inl ⟨k, e, by rw [List.getElem?_append_left (List.getElem?_eq_some_iff.mp hk).1]; exact hk⟩
    · exact Or.inr hq
/-- another order of the cells, or more of them -/
theorem xG_i {l : Launch} {y : MethodName} {wsy : List Cond} {rm : Room} {ad : (Nat → Nat) × (Nat → Nat)} {D : va_G} {cl : List vw_C} {tys : List (ClassId × FieldType)} {av : List Value} {W1 W2 : va_W} {sz : Nat} {S S' : Type} {post : Int32 → S → Prop} {F : S → va_W → Prop} {post' : Int32 → S' → Prop} {F' : S' → va_W → Prop} {mc ms : Nat} (hM : xMi l y wsy rm ad D cl tys av W1 sz post F mc ms) (h12 : wle W1 W2) (conv : ∀ r u w1, post r u → F u w1 → ∃ u' w2, post' r u' ∧ F' u' w2 ∧ wle w2 w1) : xMi l y wsy rm ad D cl tys av W2 sz post' F' mc ms := by
  unfold xMi at hM ⊢
  refine xMet_imp hM (fun a s h => ⟨h.1, xPre.le h12 h.2⟩) (fun a s o t h hq => ?_) (fun q hq => h12.A hq)
  obtain ⟨⟨r, u, ho, hp, w1, hF1, hP1, hK1, hD1⟩, hFF⟩ := hq
  obtain ⟨u', w2, k1, k2, k3⟩ := conv r u w1 hp hF1
  exact ⟨⟨r, u', ho, k1, w2, k2, k3.P hP1, hK1, (k3.D hD1).weaken (fun k q _ hq => h12.A hq)⟩, hFF.1, fun q hq hq2 => hFF.2 q hq (fun z => hq2 (h12.A z))⟩
theorem xF_l {l : Launch} {y : MethodName} {wsy : List Cond} {rm : Room} {ad : (Nat → Nat) × (Nat → Nat)} {D : va_G} {cl : List vw_C} {tys : List (ClassId × FieldType)} {av : List Value} {wc X pl : va_W} {sz : Nat} {S S' : Type} {post : Int64 → S → Prop} {F : S → va_W → Prop} {post' : Int64 → S' → Prop} {F' : S' → va_W → Prop} {mc ms : Nat} (hM : xMl l y wsy rm ad D cl tys av wc sz post F mc ms) (isC isR : List Nat) (hC : isC.map (fun i => X[i]?) = wc.map some) (hR : isR.map (fun i => X[i]?) = (isR.filterMap (fun i => X[i]?)).map some) (hn : va_nd isR = true) (hnC : va_nd isC = true) (hdis : isR.all (fun i => !isC.contains i) = true)
    (conv : ∀ r u w1, post r u → F u w1 → ∃ u' w2, post' r u' ∧ F' u' w2 ∧ wle w2 ((isR.filterMap (fun i => X[i]?) ++ w1) ++ pl)) : xMl l y wsy rm ad D cl tys av (X ++ pl) sz post' F' mc ms := by
  unfold xMl at hM ⊢
  refine xMet_imp hM (fun a s h => ⟨h.1, h.2.part isC hC hnC⟩) (fun a s o t h hq => ?_) (fun q hq => ?_)
  · obtain ⟨⟨r, u, ho, hp, w1, hF1, hP1, hK1, hD1⟩, hFF⟩ := hq
    obtain ⟨u', w2, k1, k2, k3⟩ := conv r u w1 hp hF1
    obtain ⟨j1, j2, j3, j4⟩ := xB_frame isC isR hC hR hn hdis h.2 hP1 hK1 hD1 hFF k3 hnC
    exact ⟨⟨r, u', ho, k1, w2, k2, j1, j2, j3⟩, j4⟩
  · refine (wle_part (pl := pl) isC hnC hC).A ?_
    rcases hq with ⟨k, e, hk⟩ | hq
    · exact Or.inl ⟨k, e, by rw [List.getElem?_append_left (List.getElem?_eq_some_iff.mp hk).1]; exact hk⟩
    · exact Or.inr hq
/-- another order of the cells, or more of them -/
theorem xG_l {l : Launch} {y : MethodName} {wsy : List Cond} {rm : Room} {ad : (Nat → Nat) × (Nat → Nat)} {D : va_G} {cl : List vw_C} {tys : List (ClassId × FieldType)} {av : List Value} {W1 W2 : va_W} {sz : Nat} {S S' : Type} {post : Int64 → S → Prop} {F : S → va_W → Prop} {post' : Int64 → S' → Prop} {F' : S' → va_W → Prop} {mc ms : Nat} (hM : xMl l y wsy rm ad D cl tys av W1 sz post F mc ms) (h12 : wle W1 W2) (conv : ∀ r u w1, post r u → F u w1 → ∃ u' w2, post' r u' ∧ F' u' w2 ∧ wle w2 w1) : xMl l y wsy rm ad D cl tys av W2 sz post' F' mc ms := by
  unfold xMl at hM ⊢
  refine xMet_imp hM (fun a s h => ⟨h.1, xPre.le h12 h.2⟩) (fun a s o t h hq => ?_) (fun q hq => h12.A hq)
  obtain ⟨⟨r, u, ho, hp, w1, hF1, hP1, hK1, hD1⟩, hFF⟩ := hq
  obtain ⟨u', w2, k1, k2, k3⟩ := conv r u w1 hp hF1
  exact ⟨⟨r, u', ho, k1, w2, k2, k3.P hP1, hK1, (k3.D hD1).weaken (fun k q _ hq => h12.A hq)⟩, hFF.1, fun q hq hq2 => hFF.2 q hq (fun z => hq2 (h12.A z))⟩
theorem xF_v {l : Launch} {y : MethodName} {wsy : List Cond} {rm : Room} {ad : (Nat → Nat) × (Nat → Nat)} {D : va_G} {cl : List vw_C} {tys : List (ClassId × FieldType)} {av : List Value} {wc X pl : va_W} {sz : Nat} {S S' : Type} {post : S → Prop} {F : S → va_W → Prop} {post' : S' → Prop} {F' : S' → va_W → Prop} {mc ms : Nat} (hM : xMv l y wsy rm ad D cl tys av wc sz post F mc ms) (isC isR : List Nat) (hC : isC.map (fun i => X[i]?) = wc.map some) (hR : isR.map (fun i => X[i]?) = (isR.filterMap (fun i => X[i]?)).map some) (hn : va_nd isR = true) (hnC : va_nd isC = true) (hdis : isR.all (fun i => !isC.contains i) = true)
    (conv : ∀ u w1, post u → F u w1 → ∃ u' w2, post' u' ∧ F' u' w2 ∧ wle w2 ((isR.filterMap (fun i => X[i]?) ++ w1) ++ pl)) : xMv l y wsy rm ad D cl tys av (X ++ pl) sz post' F' mc ms := by
  unfold xMv at hM ⊢
  refine xMet_imp hM (fun a s h => ⟨h.1, h.2.part isC hC hnC⟩) (fun a s o t h hq => ?_) (fun q hq => ?_)
  · obtain ⟨⟨u, ho, hp, w1, hF1, hP1, hK1, hD1⟩, hFF⟩ := hq
    obtain ⟨u', w2, k1, k2, k3⟩ := conv u w1 hp hF1
    obtain ⟨j1, j2, j3, j4⟩ := xB_frame isC isR hC hR hn hdis h.2 hP1 hK1 hD1 hFF k3 hnC
    exact ⟨⟨u', ho, k1, w2, k2, j1, j2, j3⟩, j4⟩
  · refine (wle_part (pl := pl) isC hnC hC).A ?_
    rcases hq with ⟨k, e, hk⟩ | hq
    · exact Or.inl ⟨k, e, by rw [List.getElem?_append_left (List.getElem?_eq_some_iff.mp hk).1]; exact hk⟩
    · exact Or.inr hq
/-- another order of the cells, or more of them -/
theorem xG_v {l : Launch} {y : MethodName} {wsy : List Cond} {rm : Room} {ad : (Nat → Nat) × (Nat → Nat)} {D : va_G} {cl : List vw_C} {tys : List (ClassId × FieldType)} {av : List Value} {W1 W2 : va_W} {sz : Nat} {S S' : Type} {post : S → Prop} {F : S → va_W → Prop} {post' : S' → Prop} {F' : S' → va_W → Prop} {mc ms : Nat} (hM : xMv l y wsy rm ad D cl tys av W1 sz post F mc ms) (h12 : wle W1 W2) (conv : ∀ u w1, post u → F u w1 → ∃ u' w2, post' u' ∧ F' u' w2 ∧ wle w2 w1) : xMv l y wsy rm ad D cl tys av W2 sz post' F' mc ms := by
  unfold xMv at hM ⊢
  refine xMet_imp hM (fun a s h => ⟨h.1, xPre.le h12 h.2⟩) (fun a s o t h hq => ?_) (fun q hq => h12.A hq)
  obtain ⟨⟨u, ho, hp, w1, hF1, hP1, hK1, hD1⟩, hFF⟩ := hq
  obtain ⟨u', w2, k1, k2, k3⟩ := conv u w1 hp hF1
  exact ⟨⟨u', ho, k1, w2, k2, k3.P hP1, hK1, (k3.D hD1).weaken (fun k q _ hq => h12.A hq)⟩, hFF.1, fun q hq hq2 => hFF.2 q hq (fun z => hq2 (h12.A z))⟩
