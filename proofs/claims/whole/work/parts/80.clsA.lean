/-! the class: order and break -/
/-- the items of a class's load -/
def x_ld (e n : Nat) (W P : Nat → Nat) (ws ps : Nat → Int32) : Prop :=
  n ≤ 60 ∧ (∀ i, i < z_c e n → ws i = nI (W (z_u e i)) ∧ ps i = nI (P (z_u e i))) ∧ (∀ i, i < n → 1 ≤ W i ∧ 1 ≤ P i) ∧ z_sm W n < 2 ^ 31 ∧ z_sm P n < 2 ^ 31
theorem x_ld.lt {e n : Nat} {W P : Nat → Nat} {ws ps : Nat → Int32} (h : x_ld e n W P ws ps) {i : Nat} (hi : i < n) : W i < 2 ^ 31 ∧ P i < 2 ^ 31 :=
  ⟨Nat.lt_of_le_of_lt (z_sm_1 hi) h.2.2.2.1, Nat.lt_of_le_of_lt (z_sm_1 hi) h.2.2.2.2⟩
theorem x_ld.bd {e n : Nat} {W P : Nat → Nat} {ws ps : Nat → Int32} (h : x_ld e n W P ws ps) : y_bd (z_c e n) (z_w e W P n) (z_p e W P n) := by
  obtain ⟨h1, h2, h3, h4, h5⟩ := h
  refine ⟨Nat.le_trans z_c_le h1, fun j hj => h3 _ (z_u_lt (z_ord_lt hj)), ?_, ?_⟩
  · have := z_ord_sum (b := z_bt (fun i => W (z_u e i)) (fun i => P (z_u e i))) (fun i => W (z_u e i)) (n := z_c e n)
    have h6 : z_sm (z_w e W P n) (z_c e n) = z_sm (fun i => W (z_u e i)) (z_c e n) := this
    rw [h6]
    exact Nat.lt_of_le_of_lt z_sm_skip h4
  · have := z_ord_sum (b := z_bt (fun i => W (z_u e i)) (fun i => P (z_u e i))) (fun i => P (z_u e i)) (n := z_c e n)
    have h6 : z_sm (z_p e W P n) (z_c e n) = z_sm (fun i => P (z_u e i)) (z_c e n) := this
    rw [h6]
    exact Nat.lt_of_le_of_lt z_sm_skip h5
/-- weights and profits at places -/
def x_wp (n : Nat) (w p : Nat → Nat) (t_w t_p : Nat → Int32) : Prop := ∀ j, j < n → t_w j = nI (w j) ∧ t_p j = nI (p j)
def x_arr (e : Nat) (W P : Nat → Nat) (n : Nat) (t_itemAt t_placeOf t_w t_p : Nat → Int32) : Prop :=
  (∀ j, j < z_c e n → t_itemAt j = nI (z_o e W P (z_c e n) j)) ∧ (∀ i, i < z_c e n → t_placeOf i = nI (z_pl (z_o e W P (z_c e n)) i (z_c e n))) ∧ x_wp (z_c e n) (z_w e W P n) (z_p e W P n) t_w t_p
theorem s1_isBetter {e n : Nat} {W P : Nat → Nat} {t_weights t_profits : Nat → Int32} (hA : x_ld e n W P t_weights t_profits) {post : Int32 → Prop} {a b : Nat} (ha : a < z_c e n) (hb : b < z_c e n)
    (h1 : z_bt (fun i => W (z_u e i)) (fun i => P (z_u e i)) a b = true → post 1) (h0 : z_bt (fun i => W (z_u e i)) (fun i => P (z_u e i)) a b = false → post 0) : wX1_isBetter t_profits t_weights post (nI a) (nI b) := by
  have hn := hA.1
  have hc := z_c_le (e := e) (n := n)
  obtain ⟨a1, a2⟩ := hA.2.1 a ha
  obtain ⟨b1, b2⟩ := hA.2.1 b hb
  have la := hA.lt (z_u_lt ha)
  have lb := hA.lt (z_u_lt hb)
  have m1 := z_mul_lt la.2 lb.1
  have m2 := z_mul_lt lb.2 la.1
  unfold wX1_isBetter
  simp (disch := omega) only [q32, q64, nI_add, nI_ltI, nI_leI, nI_eq, nI_clamp, vp_in_nI, lN_add, lN_mul, pk_lLT, pk_lLE, pk_lEQ, nI_l, lN_i, nI_sub, nI_an, lN_sub, lN_an, Nat.add_sub_cancel, and_true, true_and, a1, a2, b1, b2]
  simp only [z_bt] at h1 h0
  exact ⟨fun h => h0 (by rw [decide_eq_false_iff_not]; omega), fun h => h1 (by rw [decide_eq_true_iff]; omega)⟩
theorem s2_findBreak {n : Nat} {w p : Nat → Nat} {R : Nat} {t_w t_p : Nat → Int32} (hb : y_bd n w p) (hwp : x_wp n w p t_w t_p) (hR : R < 2 ^ 31) {post : Int32 → Int32 → Int32 → Prop} {t_breakPlace t_breakWeight t_breakProfit : Int32}
    (hk : post (nI (z_bk w R n 0)) (nI (z_sm w (z_bk w R n 0))) (nI (z_sm p (z_bk w R n 0)))) : wX2_findBreak (nI n) (nI R) t_w t_p post t_breakPlace t_breakWeight t_breakProfit := by
  have hn := hb.1
  have main : ∀ (r k : Nat), k + r = n → z_bk w R r k = z_bk w R n 0 → wX2_findBreak_15 (nI n) (nI R) t_w t_p post (r + 1) (nI k) (nI (z_sm w k)) (nI (z_sm p k)) := by
    intro r
    induction r with
    | zero =>
      intro k hkr hB
      rw [wX2_findBreak_15]
      unfold wX2_findBreak_15_b
      simp (disch := omega) only [q32, q64, nI_add, nI_ltI, nI_leI, nI_eq, nI_clamp, vp_in_nI, lN_add, lN_mul, pk_lLT, pk_lLE, pk_lEQ, nI_l, lN_i, nI_sub, nI_an, lN_sub, lN_an, Nat.add_sub_cancel, and_true, true_and]
      refine ⟨fun _ => ?_, fun h => by omega⟩
      rw [z_bk] at hB
      rw [hB]; exact hk
    | succ r ih =>
      intro k hkr hB
      have hkn : k < n := by omega
      obtain ⟨w1, p1⟩ := hwp k hkn
      have s1 : z_sm w (k + 1) ≤ z_sm w n := z_sm_le (by omega)
      have s2 : z_sm p (k + 1) ≤ z_sm p n := z_sm_le (by omega)
      have hb3 := hb.2.2
      have l1 := hb.lt hkn
      simp only [z_sm] at s1 s2
      rw [z_bk] at hB
      rw [wX2_findBreak_15]
      unfold wX2_findBreak_15_b
      simp (disch := omega) only [q32, q64, nI_add, nI_ltI, nI_leI, nI_eq, nI_clamp, vp_in_nI, lN_add, lN_mul, pk_lLT, pk_lLE, pk_lEQ, nI_l, lN_i, nI_sub, nI_an, lN_sub, lN_an, Nat.add_sub_cancel, and_true, true_and, w1, p1]
      refine ⟨fun h => by omega, fun _ => ⟨fun h => ?_, fun h => ?_⟩⟩
      · rw [if_neg (by simp only [z_sm]; omega)] at hB
        rw [← hB] at hk
        exact hk
      · rw [if_pos (by simp only [z_sm]; omega)] at hB
        exact ih (k + 1) (by omega) hB
  unfold wX2_findBreak
  exact ⟨n + 1, main n 0 (by omega) rfl⟩
theorem s2_rank_83 {e n : Nat} {W P : Nat → Nat} {R : Nat} {p1_weights p1_profits : Nat → Int32} (hA : x_ld e n W P p1_weights p1_profits) (hR : R < 2 ^ 31) {p1_items p1_room t_breakPlace t_breakWeight t_breakProfit : Int32} {post : Int32 → Int32 → Int32 → Int32 → Int32 → (Nat → Int32) → (Nat → Int32) → (Nat → Int32) → (Nat → Int32) → Prop} {t_itemAt : Nat → Int32}
    (ho : ∀ j, j < z_c e n → t_itemAt j = nI (z_o e W P (z_c e n) j))
    (hk : ∀ (t_placeOf t_w t_p : Nat → Int32), x_arr e W P n t_itemAt t_placeOf t_w t_p → post (nI (z_c e n)) (nI R) (nI (z_bk (z_w e W P n) R (z_c e n) 0)) (nI (z_sm (z_w e W P n) (z_bk (z_w e W P n) R (z_c e n) 0))) (nI (z_sm (z_p e W P n) (z_bk (z_w e W P n) R (z_c e n) 0))) t_itemAt t_placeOf t_w t_p) :
    ∀ (r k : Nat) (t_placeOf t_w t_p : Nat → Int32), k + r = z_c e n →
      (∀ i, i < z_c e n → (∃ j, j < k ∧ z_o e W P (z_c e n) j = i) → t_placeOf i = nI (z_pl (z_o e W P (z_c e n)) i k)) →
      (∀ j, j < k → t_w j = nI (z_w e W P n j) ∧ t_p j = nI (z_p e W P n j)) →
      wX2_rank_83 p1_items p1_room p1_profits p1_weights post (r + 1) (nI (z_c e n)) (nI R) t_breakPlace t_breakWeight t_breakProfit t_itemAt t_placeOf t_w t_p (nI k) := by
  have hn := hA.1
  have hc := z_c_le (e := e) (n := n)
  intro r
  induction r with
  | zero =>
    intro k t_placeOf t_w t_p hkr hpl hwp
    rw [wX2_rank_83]
    unfold wX2_rank_83_b
    have hk' : k = z_c e n := by omega
    subst hk'
    refine ⟨fun _ => s2_findBreak hA.bd hwp hR (hk _ _ _ ⟨ho, fun i hi => hpl i hi (z_ord_surj hi), hwp⟩), fun g => absurd (Int32.le_refl _) g⟩
  | succ r ih =>
    intro k t_placeOf t_w t_p hkr hpl hwp
    rw [wX2_rank_83]
    unfold wX2_rank_83_b
    have hkn : k < z_c e n := by omega
    have hol : z_o e W P (z_c e n) k < z_c e n := z_ord_lt hkn
    obtain ⟨a1, a2⟩ := hA.2.1 _ hol
    simp (disch := omega) only [q32, q64, nI_add, nI_ltI, nI_leI, nI_eq, nI_clamp, vp_in_nI, lN_add, lN_mul, pk_lLT, pk_lLE, pk_lEQ, nI_l, lN_i, nI_sub, nI_an, lN_sub, lN_an, Nat.add_sub_cancel, and_true, true_and, ho k hkn, a1, a2]
    refine ⟨fun g => by omega, fun _ => ?_⟩
    refine ih (k + 1) _ _ _ (by omega) (fun i hi hex => ?_) (fun j hj => ?_)
    · simp only [z_pl]
      split
      · next h => rw [← h, pk_us]
      · next h =>
        rw [pk_un (fun z => h z.symm)]
        refine hpl i hi ?_
        obtain ⟨j, h1, h2⟩ := hex
        refine ⟨j, ?_, h2⟩
        by_cases e1 : j = k
        · subst e1; exact absurd h2 h
        · omega
    · by_cases e1 : j = k
      · subst e1; rw [pk_us, pk_us]; exact ⟨rfl, rfl⟩
      · rw [pk_un e1, pk_un e1]; exact hwp j (by omega)
theorem s2_rank {e n : Nat} {W P : Nat → Nat} {R : Nat} {p1_weights p1_profits : Nat → Int32} (hA : x_ld e n W P p1_weights p1_profits) (hR : R < 2 ^ 31) {post : Int32 → Int32 → Int32 → Int32 → Int32 → (Nat → Int32) → (Nat → Int32) → (Nat → Int32) → (Nat → Int32) → Prop} {t_items t_room t_breakPlace t_breakWeight t_breakProfit : Int32} {t_itemAt t_placeOf t_weights t_profits : Nat → Int32}
    (hk : ∀ (t_itemAt t_placeOf t_w t_p : Nat → Int32), x_arr e W P n t_itemAt t_placeOf t_w t_p → post (nI (z_c e n)) (nI R) (nI (z_bk (z_w e W P n) R (z_c e n) 0)) (nI (z_sm (z_w e W P n) (z_bk (z_w e W P n) R (z_c e n) 0))) (nI (z_sm (z_p e W P n) (z_bk (z_w e W P n) R (z_c e n) 0))) t_itemAt t_placeOf t_w t_p) :
    wX2_rank (nI (z_c e n)) (nI R) p1_profits p1_weights post t_items t_room t_breakPlace t_breakWeight t_breakProfit t_itemAt t_placeOf t_weights t_profits := by
  have hn := hA.1
  have hc := z_c_le (e := e) (n := n)
  unfold wX2_rank
  refine ⟨z_c e n + 1, ?_⟩
  have main : ∀ (r i : Nat) (g : Nat → Int32), i + r = z_c e n → (∀ j, j < i → g j = nI (z_o e W P i j)) → wX2_rank_18 (nI (z_c e n)) (nI R) p1_profits p1_weights post (r + 1) (nI (z_c e n)) (nI R) t_breakPlace t_breakWeight t_breakProfit g t_placeOf t_weights t_profits (nI i) := by
    intro r
    induction r with
    | zero =>
      intro i g hir hg
      rw [wX2_rank_18]
      unfold wX2_rank_18_b
      have hi' : i = z_c e n := by omega
      subst hi'
      refine ⟨fun _ => ⟨z_c e n + 1, ?_⟩, fun h => absurd (Int32.le_refl _) h⟩
      exact s2_rank_83 hA hR hg (fun a b c h1 => hk g a b c h1) (z_c e n) 0 _ _ _ (by omega) (fun i _ h => by obtain ⟨j, h1, _⟩ := h; omega) (fun j h => by omega)
    | succ r ih =>
      intro i g hir hg
      rw [wX2_rank_18]
      unfold wX2_rank_18_b
      have hin : i < z_c e n := by omega
      simp (disch := omega) only [q32, q64, nI_add, nI_ltI, nI_leI, nI_eq, nI_clamp, vp_in_nI, lN_add, lN_mul, pk_lLT, pk_lLE, pk_lEQ, nI_l, lN_i, nI_sub, nI_an, lN_sub, lN_an, Nat.add_sub_cancel, and_true, true_and]
      refine ⟨fun h => by omega, fun _ => ⟨i + 1, ?_⟩⟩
      have put : ∀ (k : Nat) (g : Nat → Int32) (f : Nat → Nat), k ≤ i → (∀ j, j ≤ i → j ≠ k → g j = nI (f j) ∧ f j < i) →
          (∀ j, j ≤ i → z_up f k i j = z_o e W P (i + 1) j) → wX2_rank_68 (nI (z_c e n)) (nI R) p1_profits p1_weights (wX2_rank_18 (nI (z_c e n)) (nI R) p1_profits p1_weights post (r + 1)) post (nI (z_c e n)) (nI R) t_breakPlace t_breakWeight t_breakProfit g t_placeOf t_weights t_profits (nI i) (nI k) := by
        intro k g f hk hg hf
        unfold wX2_rank_68
        simp (disch := omega) only [q32, q64, nI_add, nI_ltI, nI_leI, nI_eq, nI_clamp, vp_in_nI, lN_add, lN_mul, pk_lLT, pk_lLE, pk_lEQ, nI_l, lN_i, nI_sub, nI_an, lN_sub, lN_an, Nat.add_sub_cancel, and_true, true_and]
        refine ih (i + 1) _ (by omega) (fun j hj => ?_)
        rw [← hf j (by omega)]
        by_cases e1 : j = k
        · subst e1; rw [pk_us, z_up_s]
        · rw [pk_un e1, z_up_n e1]; exact (hg j (by omega) e1).1
      have inner : ∀ (k : Nat) (g : Nat → Int32) (f : Nat → Nat), k ≤ i → (∀ j, j ≤ i → j ≠ k → g j = nI (f j) ∧ f j < i) →
          (∀ j, j ≤ i → z_ins (z_bt (fun i => W (z_u e i)) (fun i => P (z_u e i))) i k f j = z_o e W P (i + 1) j) →
          wX2_rank_28 (nI (z_c e n)) (nI R) p1_profits p1_weights (wX2_rank_18 (nI (z_c e n)) (nI R) p1_profits p1_weights post (r + 1)) post (k + 1) (nI (z_c e n)) (nI R) t_breakPlace t_breakWeight t_breakProfit g t_placeOf t_weights t_profits (nI i) (nI k) := by
        intro k
        induction k with
        | zero =>
          intro g f hk hg hf
          rw [wX2_rank_28]
          unfold wX2_rank_28_b
          refine ⟨fun _ => put 0 g f hk hg (fun j hj => by rw [← hf j hj, z_ins]), fun h => absurd (by decide) h⟩
        | succ k ih2 =>
          intro g f hk hg hf
          rw [wX2_rank_28]
          unfold wX2_rank_28_b
          obtain ⟨g1, g2⟩ := hg k (by omega) (by omega)
          simp (disch := omega) only [q32, q64, nI_add, nI_ltI, nI_leI, nI_eq, nI_clamp, vp_in_nI, lN_add, lN_mul, pk_lLT, pk_lLE, pk_lEQ, nI_l, lN_i, nI_sub, nI_an, lN_sub, lN_an, Nat.add_sub_cancel, and_true, true_and, g1]
          refine ⟨fun h => by omega, fun _ => ?_⟩
          refine s1_isBetter hA hin (by omega) (fun hb => ?_) (fun hb => ?_)
          · unfold wX2_rank_45
            refine ⟨fun h => absurd h (by decide), fun _ => ?_⟩
            simp (disch := omega) only [q32, q64, nI_add, nI_ltI, nI_leI, nI_eq, nI_clamp, vp_in_nI, lN_add, lN_mul, pk_lLT, pk_lLE, pk_lEQ, nI_l, lN_i, nI_sub, nI_an, lN_sub, lN_an, Nat.add_sub_cancel, and_true, true_and, g1]
            refine ih2 _ (z_up f (k + 1) (f k)) (by omega) (fun j hj hn' => ?_) (fun j hj => ?_)
            · by_cases e1 : j = k + 1
              · subst e1; rw [pk_us, z_up_s]; exact ⟨rfl, g2⟩
              · rw [pk_un e1, z_up_n e1]; exact hg j hj e1
            · rw [← hf j hj, z_ins, if_pos hb]
          · unfold wX2_rank_45
            refine ⟨fun _ => ?_, fun h => absurd rfl h⟩
            refine put (k + 1) g f hk hg (fun j hj => ?_)
            rw [← hf j hj, z_ins, if_neg (by rw [hb]; decide)]
      refine inner i g (z_o e W P i) (Nat.le_refl _) (fun j hj hne => ?_) (fun j hj => rfl)
      exact ⟨hg j (by omega), z_ord_lt (by omega)⟩
  exact main (z_c e n) 0 t_itemAt (by omega) (fun j hj => by omega)
