/-! loads, and those that are kept for undo -/
/-- items, weights, profits, room, most, steps -/
abbrev ZL : Type := Nat × (Nat → Nat) × (Nat → Nat) × Nat × Nat × Nat
theorem z_c60 {n : Nat} (h : n ≤ 60) : z_c 60 n = n := by
  unfold z_c
  rw [if_neg (by omega)]
theorem z_u60 {i : Nat} (h : i < 60) : z_u 60 i = i := by
  unfold z_u
  rw [if_pos h]
def z_lim (n : Nat) (W P : Nat → Nat) (R M : Nat) : Prop := n ≤ 60 ∧ (∀ i, i < n → 1 ≤ W i ∧ 1 ≤ P i) ∧ z_sm W n < 2 ^ 31 ∧ z_sm P n < 2 ^ 31 ∧ R ≤ 2000000000 ∧ 2 ≤ M ∧ M ≤ 1000
def l_ok (L : ZL) : Prop := z_lim L.1 L.2.1 L.2.2.1 L.2.2.2.1 L.2.2.2.2.1 ∧ ∃ d, z_at 60 L.1 L.2.1 L.2.2.1 L.2.2.2.1 L.2.2.2.2.1 L.2.2.2.2.2 d
def x_L (L : ZL) (i r m s : Int32) (ws ps : Nat → Int32) : Prop := i = nI L.1 ∧ r = nI L.2.2.2.1 ∧ m = nI L.2.2.2.2.1 ∧ s = nI L.2.2.2.2.2 ∧ ∀ k, k < L.1 → ws k = nI (L.2.1 k) ∧ ps k = nI (L.2.2.1 k)
def y_L (L : ZL) (a : Nat → Int32) : Prop := a 0 = nI L.1 ∧ a 1 = nI L.2.2.2.1 ∧ a 2 = nI L.2.2.2.2.1 ∧ a 3 = nI L.2.2.2.2.2 ∧ ∀ k, k < L.1 → a (4 + k) = nI (L.2.1 k) ∧ a (64 + k) = nI (L.2.2.1 k)
def x_past (H : List ZL) (acts : Int32) (pi pr pm pst : Nat → Int32) (pw pp : Nat → Nat → Int32) : Prop := acts = nI H.length ∧ H.length ≤ 8 ∧ ∀ k (h : k < H.length), x_L H[k] (pi k) (pr k) (pm k) (pst k) (pw k) (pp k)
def y_past (H : List ZL) (undos : Int32) (u : Nat → Int32) : Prop := undos = nI H.length ∧ H.length ≤ 8 ∧ ∀ k (h : k < H.length), y_L H[k] (fun j => u (124 * k + j))
def z_keep (H : List ZL) (L : ZL) : List ZL := (if H.length = 8 then H.tail else H) ++ [L]
theorem y_L.congr {L : ZL} {a b : Nat → Int32} (hn : L.1 ≤ 60) (h : y_L L a) (e : ∀ j, j < 124 → b j = a j) : y_L L b := by
  obtain ⟨h0, h1, h2, h3, h4⟩ := h
  refine ⟨by rw [e 0 (by omega), h0], by rw [e 1 (by omega), h1], by rw [e 2 (by omega), h2], by rw [e 3 (by omega), h3], fun k hk => ?_⟩
  rw [e (4 + k) (by omega), e (64 + k) (by omega)]
  exact h4 k hk
theorem x_L.ld {L : ZL} {i r m s : Int32} {ws ps : Nat → Int32} (h : x_L L i r m s ws ps) (hl : z_lim L.1 L.2.1 L.2.2.1 L.2.2.2.1 L.2.2.2.2.1) : x_ld 60 L.1 L.2.1 L.2.2.1 ws ps := by
  obtain ⟨h1, h2, h3, h4, -⟩ := hl
  refine ⟨h1, fun i hi => ?_, h2, h3, h4⟩
  rw [z_c60 h1] at hi
  rw [z_u60 (by omega)]
  exact h.2.2.2.2 i hi
theorem y_L.ld {L : ZL} {a : Nat → Int32} (h : y_L L a) (hl : z_lim L.1 L.2.1 L.2.2.1 L.2.2.2.1 L.2.2.2.2.1) : y_load L.1 L.2.1 L.2.2.1 L.2.2.2.1 L.2.2.2.2.1 L.2.2.2.2.2 a := by
  obtain ⟨h1, h2, h3, h4, h5, h6, h7⟩ := hl
  obtain ⟨a0, a1, a2, a3, a4⟩ := h
  exact ⟨⟨a0, h1, a4, h2, h3, h4⟩, a1, a2, a3, by omega, h6, h7⟩
theorem z_cpy0 {α : Type} {f g : Nat → α} {n k : Nat} (h : k < n) : va_cpy f g 0 0 n k = f k := by
  unfold va_cpy
  rw [if_pos ⟨Nat.zero_le _, by omega⟩, Nat.sub_zero, Nat.zero_add]
theorem s1_copyFrom {L : ZL} {p1_items p1_room p1_most p1_steps : Int32} {p1_weights p1_profits : Nat → Int32} {post : Int32 → Int32 → Int32 → Int32 → (Nat → Int32) → (Nat → Int32) → Prop} {t_items t_room t_most t_steps : Int32} {t_weights t_profits : Nat → Int32} (hn : L.1 ≤ 60) (hL : x_L L p1_items p1_room p1_most p1_steps p1_weights p1_profits)
    (hk : ∀ (i r m s : Int32) (ws ps : Nat → Int32), x_L L i r m s ws ps → post i r m s ws ps) : wX1_copyFrom p1_items p1_room p1_most p1_steps p1_weights p1_profits post t_items t_room t_most t_steps t_weights t_profits := by
  obtain ⟨rfl, rfl, rfl, rfl, hA⟩ := hL
  unfold wX1_copyFrom
  have e0 : ((0 : Int32)).toNatClampNeg = 0 := rfl
  rw [nI_clamp (by omega), e0]
  refine ⟨nI_nlt (b := 0) (Nat.zero_le _) (by omega), by omega, by omega, nI_nlt (b := 0) (Nat.zero_le _) (by omega), by omega, by omega, hk _ _ _ _ _ _ ⟨rfl, rfl, rfl, rfl, fun k hk => ?_⟩⟩
  rw [z_cpy0 hk, z_cpy0 hk]
  exact hA k hk
theorem s6_remember_64 {H : List ZL} {L : ZL} {t_now_load_items t_now_load_room t_now_load_most t_now_load_steps : Int32} {t_now_load_weights t_now_load_profits : Nat → Int32} {post : Int32 → (Nat → Int32) → (Nat → Int32) → (Nat → Int32) → (Nat → Int32) → (Nat → Nat → Int32) → (Nat → Nat → Int32) → Prop} {t_past_items t_past_room t_past_most t_past_steps : Nat → Int32} {t_past_weights t_past_profits : Nat → Nat → Int32} (hn : L.1 ≤ 60) (hL : x_L L t_now_load_items t_now_load_room t_now_load_most t_now_load_steps t_now_load_weights t_now_load_profits)
    (hl : H.length < 8) (hH : ∀ k (h : k < H.length), x_L H[k] (t_past_items k) (t_past_room k) (t_past_most k) (t_past_steps k) (t_past_weights k) (t_past_profits k))
    (hk : ∀ (t_acts' : Int32) (t_past_items' t_past_room' t_past_most' t_past_steps' : Nat → Int32) (t_past_weights' t_past_profits' : Nat → Nat → Int32), x_past (H ++ [L]) t_acts' t_past_items' t_past_room' t_past_most' t_past_steps' t_past_weights' t_past_profits' → post t_acts' t_past_items' t_past_room' t_past_most' t_past_steps' t_past_weights' t_past_profits') :
    wX6_remember_64 t_now_load_items t_now_load_room t_now_load_most t_now_load_steps t_now_load_weights t_now_load_profits post (nI H.length) t_past_items t_past_room t_past_most t_past_steps t_past_weights t_past_profits := by
  have put : ∀ m, m = H.length → wX1_copyFrom t_now_load_items t_now_load_room t_now_load_most t_now_load_steps t_now_load_weights t_now_load_profits (fun m80_0 m80_1 m80_2 m80_3 m80_4 m80_5 => wX6_remember_83 t_now_load_items t_now_load_room t_now_load_most t_now_load_steps t_now_load_weights t_now_load_profits post (nI H.length) (va_up t_past_items m m80_0) (va_up t_past_room m m80_1) (va_up t_past_most m m80_2) (va_up t_past_steps m m80_3) (va_up t_past_weights m m80_4) (va_up t_past_profits m m80_5)) (t_past_items m) (t_past_room m) (t_past_most m) (t_past_steps m) (t_past_weights m) (t_past_profits m) := by
    intro m hm
    refine s1_copyFrom hn hL (fun i r mm s ws ps h => ?_)
    unfold wX6_remember_83
    rw [nI_1]
    refine hk _ _ _ _ _ _ _ ⟨by rw [List.length_append]; rfl, by rw [List.length_append]; show H.length + 1 ≤ 8; omega, fun k hk' => ?_⟩
    by_cases e : k = m
    · subst e
      subst hm
      simp only [va_up, if_true, List.getElem_append_right (Nat.le_refl _), Nat.sub_self, List.getElem_cons_zero]
      exact h
    · have hk2 : k < H.length := by
        rw [List.length_append] at hk'
        have : k < H.length + 1 := hk'
        omega
      simp only [va_up, if_neg e, List.getElem_append_left hk2]
      exact hH k hk2
  have ez : ∀ j, j < 2 ^ 31 → nI H.length = nI j → j = H.length := fun j hj h => ((nI_eq (by omega) hj).mp h).symm
  unfold wX6_remember_64
  refine ⟨fun h => put 0 (ez 0 (by omega) h), fun h0 => ⟨fun h => put 1 (ez 1 (by omega) h), fun h1 => ⟨fun h => put 2 (ez 2 (by omega) h), fun h2 => ⟨fun h => put 3 (ez 3 (by omega) h), fun h3 => ⟨fun h => put 4 (ez 4 (by omega) h), fun h4 => ⟨fun h => put 5 (ez 5 (by omega) h), fun h5 => ⟨fun h => put 6 (ez 6 (by omega) h), fun h6 => ⟨fun h => put 7 (ez 7 (by omega) h), fun h7 => ?_⟩⟩⟩⟩⟩⟩⟩⟩
  have nz : ∀ j, ¬ nI H.length = nI j → H.length ≠ j := fun j h e => h (by rw [e])
  have := nz 0 h0
  have := nz 1 h1
  have := nz 2 h2
  have := nz 3 h3
  have := nz 4 h4
  have := nz 5 h5
  have := nz 6 h6
  have := nz 7 h7
  omega
theorem z_xs8 {α : Type} {f : Nat → α} : ∀ {k : Nat}, k < 7 → xs8 (f 1) (f 2) (f 3) (f 4) (f 5) (f 6) (f 7) (f 0) k = f (k + 1)
  | 0, _ => rfl
  | 1, _ => rfl
  | 2, _ => rfl
  | 3, _ => rfl
  | 4, _ => rfl
  | 5, _ => rfl
  | 6, _ => rfl
  | k + 7, h => by omega
theorem s6_remember {H : List ZL} {L : ZL} {t_now_load_items t_now_load_room t_now_load_most t_now_load_steps : Int32} {t_now_load_weights t_now_load_profits : Nat → Int32} {post : Int32 → (Nat → Int32) → (Nat → Int32) → (Nat → Int32) → (Nat → Int32) → (Nat → Nat → Int32) → (Nat → Nat → Int32) → Prop} {t_acts : Int32} {t_past_items t_past_room t_past_most t_past_steps : Nat → Int32} {t_past_weights t_past_profits : Nat → Nat → Int32} (hn : L.1 ≤ 60) (hL : x_L L t_now_load_items t_now_load_room t_now_load_most t_now_load_steps t_now_load_weights t_now_load_profits)
    (hH : x_past H t_acts t_past_items t_past_room t_past_most t_past_steps t_past_weights t_past_profits)
    (hk : ∀ (t_acts' : Int32) (t_past_items' t_past_room' t_past_most' t_past_steps' : Nat → Int32) (t_past_weights' t_past_profits' : Nat → Nat → Int32), x_past (z_keep H L) t_acts' t_past_items' t_past_room' t_past_most' t_past_steps' t_past_weights' t_past_profits' → post t_acts' t_past_items' t_past_room' t_past_most' t_past_steps' t_past_weights' t_past_profits') : wX6_remember t_now_load_items t_now_load_room t_now_load_most t_now_load_steps t_now_load_weights t_now_load_profits post t_acts t_past_items t_past_room t_past_most t_past_steps t_past_weights t_past_profits := by
  obtain ⟨rfl, h8, hr⟩ := hH
  unfold wX6_remember
  rw [show ((8 : Int32)) = nI 8 from rfl, nI_eq (by omega) (by omega)]
  refine ⟨fun h => ?_, fun h => ?_⟩
  · have e : nI H.length - 1 = nI H.tail.length := by rw [List.length_tail]; exact nI_sub (b := 1) (by omega)
    rw [e]
    unfold z_keep at hk
    rw [if_pos h] at hk
    refine s6_remember_64 hn hL (by rw [List.length_tail]; omega) (fun k hk' => ?_) hk
    rw [List.length_tail] at hk'
    have e2 : H.tail[k]'(by rw [List.length_tail]; omega) = H[k + 1]'(by omega) := by rw [List.getElem_tail]
    rw [e2, z_xs8 (by omega), z_xs8 (by omega), z_xs8 (by omega), z_xs8 (by omega), z_xs8 (by omega), z_xs8 (by omega)]
    exact hr (k + 1) (by omega)
  · unfold z_keep at hk
    rw [if_neg h] at hk
    exact s6_remember_64 hn hL (by omega) hr hk
theorem s7_keeps {H : List ZL} {L : ZL} {t_all : Nat → Int32} {post : Int32 → (Nat → Int32) → Prop} {t_undos : Int32} {t_undone : Nat → Int32} (hn : L.1 ≤ 60) (hL : y_L L t_all) (hH : y_past H t_undos t_undone) (hall : ∀ M ∈ H, M.1 ≤ 60)
    (hk : ∀ (t_undos' : Int32) (t_undone' : Nat → Int32), y_past (z_keep H L) t_undos' t_undone' → post t_undos' t_undone') : wX7_keeps t_all post t_undos t_undone := by
  obtain ⟨rfl, h8, hr⟩ := hH
  have put : ∀ (G : List ZL) (f : Nat → Int32), G.length < 8 → (∀ M ∈ G, M.1 ≤ 60) → (∀ k (h : k < G.length), y_L G[k] (fun j => f (124 * k + j))) → (∀ (t_undos' : Int32) (t_undone' : Nat → Int32), y_past (G ++ [L]) t_undos' t_undone' → post t_undos' t_undone') → wX7_keeps_49 t_all post (nI G.length) f := by
    intro G f hG hGa hf hk
    have main : ∀ (r v : Nat) (g : Nat → Int32), v + r = 124 → (∀ q, q < 124 * G.length → g q = f q) → (∀ j, j < v → g (124 * G.length + j) = t_all j) → wX7_keeps_51 t_all post (r + 1) (nI G.length) g (nI v) := by
      intro r
      induction r with
      | zero =>
        intro v g hv h1 h2
        rw [wX7_keeps_51]
        unfold wX7_keeps_51_b
        rw [show ((124 : Int32)) = nI 124 from rfl, nI_leI (by omega) (by omega), nI_1]
        refine ⟨fun _ => hk _ _ ⟨by rw [List.length_append]; rfl, by rw [List.length_append]; show G.length + 1 ≤ 8; omega, fun k hk' => ?_⟩, fun h => by omega⟩
        by_cases e : k < G.length
        · rw [List.getElem_append_left e]
          exact (hf k e).congr (hGa _ (List.getElem_mem e)) (fun j hj => h1 _ (by omega))
        · have e2 : k = G.length := by
            rw [List.length_append] at hk'
            have : k < G.length + 1 := hk'
            omega
          subst e2
          rw [List.getElem_append_right (Nat.le_refl _)]
          simp only [Nat.sub_self, List.getElem_cons_zero]
          exact hL.congr hn (fun j hj => h2 j (by omega))
      | succ r ih =>
        intro v g hv h1 h2
        rw [wX7_keeps_51]
        unfold wX7_keeps_51_b
        rw [show ((124 : Int32)) = nI 124 from rfl, nI_mul, nI_add, nI_1 v, nI_leI (by omega) (by omega), nI_clamp (by omega), nI_clamp (by omega)]
        refine ⟨fun h => by omega, fun _ => ⟨vp_in_nI (by omega) (by omega), vp_in_nI (by omega) (by omega), ih (v + 1) _ (by omega) (fun q hq => ?_) (fun j hj => ?_)⟩⟩
        · rw [pk_un (by omega)]; exact h1 q hq
        · by_cases e : j = v
          · subst e; rw [pk_us]
          · rw [pk_un (by omega)]; exact h2 j (by omega)
    unfold wX7_keeps_49
    exact ⟨125, main 124 0 f (by omega) (fun _ _ => rfl) (fun j hj => by omega)⟩
  unfold wX7_keeps
  rw [show ((8 : Int32)) = nI 8 from rfl, nI_eq (by omega) (by omega)]
  refine ⟨fun h => ⟨869, ?_⟩, fun h => ?_⟩
  · have main : ∀ (r v : Nat) (g : Nat → Int32), v + r = 868 → (∀ q, q < v → g q = t_undone (q + 124)) → (∀ q, v ≤ q → g q = t_undone q) → wX7_keeps_11 t_all post (r + 1) (nI H.length) g (nI v) := by
      intro r
      induction r with
      | zero =>
        intro v g hv h1 h2
        rw [wX7_keeps_11]
        unfold wX7_keeps_11_b
        rw [show ((868 : Int32)) = nI 868 from rfl, nI_leI (by omega) (by omega)]
        refine ⟨fun _ => ?_, fun h => by omega⟩
        have e : nI H.length - 1 = nI H.tail.length := by rw [List.length_tail]; exact nI_sub (b := 1) (by omega)
        rw [e]
        unfold z_keep at hk
        rw [if_pos h] at hk
        refine put H.tail g (by rw [List.length_tail]; omega) (fun M hM => hall M (List.mem_of_mem_tail hM)) (fun k hk' => ?_) hk
        rw [List.length_tail] at hk'
        have e2 : H.tail[k]'(by rw [List.length_tail]; omega) = H[k + 1]'(by omega) := by rw [List.getElem_tail]
        rw [e2]
        exact (hr (k + 1) (by omega)).congr (hall _ (List.getElem_mem _)) (fun j hj => by
          rw [h1 _ (by omega)]
          show t_undone (124 * k + j + 124) = t_undone (124 * (k + 1) + j)
          congr 1
          omega)
      | succ r ih =>
        intro v g hv h1 h2
        rw [wX7_keeps_11]
        unfold wX7_keeps_11_b
        rw [show ((868 : Int32)) = nI 868 from rfl, show ((124 : Int32)) = nI 124 from rfl, nI_add, nI_1, nI_leI (by omega) (by omega), nI_clamp (by omega), nI_clamp (by omega)]
        refine ⟨fun h => by omega, fun _ => ⟨vp_in_nI (by omega) (by omega), vp_in_nI (by omega) (by omega), ih (v + 1) _ (by omega) (fun q hq => ?_) (fun q hq => ?_)⟩⟩
        · by_cases e : q = v
          · subst e; rw [pk_us]; exact h2 _ (by omega)
          · rw [pk_un e]; exact h1 q (by omega)
        · rw [pk_un (by omega)]; exact h2 q (by omega)
    exact main 868 0 t_undone (by omega) (fun q hq => by omega) (fun q _ => rfl)
  · unfold z_keep at hk
    rw [if_neg h] at hk
    exact put H t_undone (by omega) hall hr hk
