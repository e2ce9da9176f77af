/-! the reference: order, break, begin -/
/-- items of the reference's row -/
def y_all (n : Nat) (W P : Nat → Nat) (a : Nat → Int32) : Prop :=
  a 0 = nI n ∧ n ≤ 60 ∧ (∀ i, i < n → a (4 + i) = nI (W i) ∧ a (64 + i) = nI (P i)) ∧ (∀ i, i < n → 1 ≤ W i ∧ 1 ≤ P i) ∧ z_sm W n < 2 ^ 31 ∧ z_sm P n < 2 ^ 31
theorem y_all.lt {n : Nat} {W P : Nat → Nat} {a : Nat → Int32} (h : y_all n W P a) {i : Nat} (hi : i < n) : W i < 2 ^ 31 ∧ P i < 2 ^ 31 :=
  ⟨Nat.lt_of_le_of_lt (z_sm_1 hi) h.2.2.2.2.1, Nat.lt_of_le_of_lt (z_sm_1 hi) h.2.2.2.2.2⟩
theorem z_mul_lt {a b : Nat} (ha : a < 2 ^ 31) (hb : b < 2 ^ 31) : a * b < 2 ^ 62 := by
  have := Nat.mul_lt_mul'' ha hb
  rw [← Nat.pow_add] at this
  exact this
theorem s7_in {post : Int32 → Prop} {v0 v2 v4 : Int64} (h1 : v2 ≤ v0 → v0 ≤ v4 → post 1) (h0 : (v0 < v2 ∨ v4 < v0) → post 0) : wX7_in post v0 v2 v4 := by
  unfold wX7_in
  refine ⟨fun h => h0 (Or.inl h), fun h => ⟨fun g => h0 (Or.inr g), fun g => h1 (Int64.not_lt.mp h) (Int64.not_lt.mp g)⟩⟩
theorem s7_isAhead {n : Nat} {W P : Nat → Nat} {t_all : Nat → Int32} (hA : y_all n W P t_all) {post : Int32 → Prop} {a b : Nat} (ha : a < n) (hb : b < a)
    (h1 : z_bt W P a b = true → post 1) (h0 : z_bt W P a b = false → post 0) : wX7_isAhead t_all post (nI a) (nI b) := by
  have hn := hA.2.1
  have hb' : b < n := by omega
  obtain ⟨a1, a2⟩ := hA.2.2.1 a ha
  obtain ⟨b1, b2⟩ := hA.2.2.1 b hb'
  have la := hA.lt ha
  have lb := hA.lt hb'
  have m1 := z_mul_lt la.2 lb.1
  have m2 := z_mul_lt lb.2 la.1
  unfold wX7_isAhead
  simp (disch := omega) only [q32, q64, nI_add, nI_ltI, nI_leI, nI_eq, nI_clamp, vp_in_nI, lN_add, lN_mul, pk_lLT, pk_lLE, pk_lEQ, nI_l, lN_i, nI_sub, nI_an, lN_sub, lN_an, Nat.add_sub_cancel, and_true, true_and, a1, a2, b1, b2]
  unfold z_bt at h1 h0
  refine ⟨fun h => ⟨fun _ => h0 (by rw [decide_eq_false_iff_not]; omega), fun g => by omega⟩, fun h => ⟨fun g => h0 (by rw [decide_eq_false_iff_not]; omega), fun g => h1 (by rw [decide_eq_true_iff]; omega)⟩⟩
/-- items are numbered on behind one that is left out -/
def z_u (e i : Nat) : Nat := if i < e then i else i + 1
/-- how many there are of the first i without it -/
def z_c (e i : Nat) : Nat := if e < i then i - 1 else i
theorem z_u_c {e i : Nat} (h : i ≠ e) : z_u e (z_c e i) = i := by
  unfold z_u z_c
  split <;> split <;> omega
theorem z_c_s {e i : Nat} (h : i ≠ e) : z_c e (i + 1) = z_c e i + 1 := by
  unfold z_c
  split <;> split <;> omega
theorem z_c_e {e : Nat} : z_c e (e + 1) = z_c e e := by
  unfold z_c
  split <;> split <;> omega
theorem z_u_lt {e i n : Nat} (h : i < z_c e n) : z_u e i < n := by
  unfold z_u
  unfold z_c at h
  split at h <;> split <;> omega
theorem z_c_le {e n : Nat} : z_c e n ≤ n := by
  unfold z_c
  split <;> omega
theorem z_u_inj {e i j : Nat} (h : z_u e i = z_u e j) : i = j := by
  unfold z_u at h
  split at h <;> split at h <;> omega
/-- the order of those that are there -/
abbrev z_o (e : Nat) (W P : Nat → Nat) (m : Nat) : Nat → Nat := z_ord (z_bt (fun i => W (z_u e i)) (fun i => P (z_u e i))) m
theorem s7_orders_95 {n e : Nat} {W P : Nat → Nat} {t_all : Nat → Int32} (hA : y_all n W P t_all) {post : Int32 → (Nat → Int32) → (Nat → Int32) → (Nat → Int64) → (Nat → Int64) → Prop} {t_orderOf : Nat → Int32}
    (ho : ∀ j, j < z_c e n → t_orderOf j = nI (z_u e (z_o e W P (z_c e n) j)))
    (hk : ∀ (t_placeOf : Nat → Int32) (t_w t_p : Nat → Int64), (∀ i, i < z_c e n → t_placeOf (z_u e i) = nI (z_pl (z_o e W P (z_c e n)) i (z_c e n))) → (∀ j, j < z_c e n → t_w j = lN (W (z_u e (z_o e W P (z_c e n) j))) ∧ t_p j = lN (P (z_u e (z_o e W P (z_c e n) j)))) → post (nI (z_c e n)) t_orderOf t_placeOf t_w t_p) :
    ∀ (r k : Nat) (t_placeOf : Nat → Int32) (t_w t_p : Nat → Int64), k + r = z_c e n →
      (∀ i, i < z_c e n → (∃ j, j < k ∧ z_o e W P (z_c e n) j = i) → t_placeOf (z_u e i) = nI (z_pl (z_o e W P (z_c e n)) i k)) →
      (∀ j, j < k → t_w j = lN (W (z_u e (z_o e W P (z_c e n) j))) ∧ t_p j = lN (P (z_u e (z_o e W P (z_c e n) j)))) →
      wX7_orders_95 t_all post (r + 1) (nI (z_c e n)) t_orderOf t_placeOf t_w t_p (nI k) := by
  have hn := hA.2.1
  have hc := z_c_le (e := e) (n := n)
  intro r
  induction r with
  | zero =>
    intro k t_placeOf t_w t_p hkr hpl hwp
    rw [wX7_orders_95]
    unfold wX7_orders_95_b
    have hk' : k = z_c e n := by omega
    subst hk'
    refine ⟨fun _ => hk _ _ _ (fun i hi => hpl i hi (z_ord_surj hi)) hwp, fun g => absurd (Int32.le_refl _) g⟩
  | succ r ih =>
    intro k t_placeOf t_w t_p hkr hpl hwp
    rw [wX7_orders_95]
    unfold wX7_orders_95_b
    have hkn : k < z_c e n := by omega
    have hol : z_o e W P (z_c e n) k < z_c e n := z_ord_lt hkn
    have hul : z_u e (z_o e W P (z_c e n) k) < n := z_u_lt hol
    obtain ⟨a1, a2⟩ := hA.2.2.1 _ hul
    have la := hA.lt hul
    simp (disch := omega) only [q32, q64, nI_add, nI_ltI, nI_leI, nI_eq, nI_clamp, vp_in_nI, lN_add, lN_mul, pk_lLT, pk_lLE, pk_lEQ, nI_l, lN_i, nI_sub, nI_an, lN_sub, lN_an, Nat.add_sub_cancel, and_true, true_and, ho k hkn, a1, a2]
    refine ⟨fun g => by omega, fun _ => ?_⟩
    refine ih (k + 1) _ _ _ (by omega) (fun i hi hex => ?_) (fun j hj => ?_)
    · simp only [z_pl]
      split
      · next h => rw [← h, pk_us]
      · next h =>
        rw [pk_un (fun z => h (z_u_inj z).symm)]
        refine hpl i hi ?_
        obtain ⟨j, h1, h2⟩ := hex
        refine ⟨j, ?_, h2⟩
        by_cases e1 : j = k
        · subst e1; exact absurd h2 h
        · omega
    · by_cases e1 : j = k
      · subst e1; rw [pk_uLs, pk_uLs]; exact ⟨rfl, rfl⟩
      · rw [pk_uLn e1, pk_uLn e1]; exact hwp j (by omega)
theorem s7_orders_30 {n e : Nat} {W P : Nat → Nat} {t_all : Nat → Int32} (hA : y_all n W P t_all) {K7 : Int32 → (Nat → Int32) → (Nat → Int32) → (Nat → Int64) → (Nat → Int64) → Int32 → Int32 → Prop} {post : Int32 → (Nat → Int32) → (Nat → Int32) → (Nat → Int64) → (Nat → Int64) → Prop} {t_placeOf : Nat → Int32} {t_w t_p : Nat → Int64} {v1 : Int32} {i : Nat} (hi : i < n) (hie : i ≠ e)
    (hK : ∀ (g : Nat → Int32), (∀ j, j < z_c e (i + 1) → g j = nI (z_u e (z_o e W P (z_c e (i + 1)) j))) → K7 (nI (z_c e (i + 1))) g t_placeOf t_w t_p v1 (nI (i + 1))) :
    ∀ (k : Nat) (g : Nat → Int32) (f : Nat → Nat), k ≤ z_c e i → (∀ j, j ≤ z_c e i → j ≠ k → g j = nI (z_u e (f j)) ∧ f j < z_c e i) →
      (∀ j, j ≤ z_c e i → z_ins (z_bt (fun i => W (z_u e i)) (fun i => P (z_u e i))) (z_c e i) k f j = z_o e W P (z_c e (i + 1)) j) →
      wX7_orders_30 t_all K7 post (k + 1) (nI (z_c e i)) g t_placeOf t_w t_p v1 (nI i) (nI k) := by
  have hn := hA.2.1
  have hc := z_c_le (e := e) (n := i)
  have hcs := z_c_s hie
  have huc := z_u_c hie
  have put : ∀ (k : Nat) (g : Nat → Int32) (f : Nat → Nat), k ≤ z_c e i → (∀ j, j ≤ z_c e i → j ≠ k → g j = nI (z_u e (f j)) ∧ f j < z_c e i) →
      (∀ j, j ≤ z_c e i → z_up f k (z_c e i) j = z_o e W P (z_c e (i + 1)) j) → wX7_orders_70 t_all K7 post (nI (z_c e i)) g t_placeOf t_w t_p v1 (nI i) (nI k) := by
    intro k g f hk hg hf
    unfold wX7_orders_70 wX7_orders_87
    simp (disch := omega) only [q32, q64, nI_add, nI_ltI, nI_leI, nI_eq, nI_clamp, vp_in_nI, lN_add, lN_mul, pk_lLT, pk_lLE, pk_lEQ, nI_l, lN_i, nI_sub, nI_an, lN_sub, lN_an, Nat.add_sub_cancel, and_true, true_and]
    rw [← hcs]
    refine hK _ (fun j hj => ?_)
    rw [← hf j (by omega)]
    by_cases e1 : j = k
    · subst e1; rw [pk_us, z_up_s, huc]
    · rw [pk_un e1, z_up_n e1]; exact (hg j (by omega) e1).1
  intro k
  induction k with
  | zero =>
    intro g f hk hg hf
    rw [wX7_orders_30]
    unfold wX7_orders_30_b
    refine ⟨fun _ => put 0 g f hk hg (fun j hj => by rw [← hf j hj, z_ins]), fun h => absurd (by decide) h⟩
  | succ k ih =>
    intro g f hk hg hf
    rw [wX7_orders_30]
    unfold wX7_orders_30_b
    obtain ⟨g1, g2⟩ := hg k (by omega) (by omega)
    have hul : z_u e (f k) < i := z_u_lt g2
    simp (disch := omega) only [q32, q64, nI_add, nI_ltI, nI_leI, nI_eq, nI_clamp, vp_in_nI, lN_add, lN_mul, pk_lLT, pk_lLE, pk_lEQ, nI_l, lN_i, nI_sub, nI_an, lN_sub, lN_an, Nat.add_sub_cancel, and_true, true_and, g1]
    refine ⟨fun h => by omega, fun _ => ?_⟩
    have hbb : z_bt W P i (z_u e (f k)) = z_bt (fun i => W (z_u e i)) (fun i => P (z_u e i)) (z_c e i) (f k) := by
      simp only [z_bt, huc]
    refine s7_isAhead hA hi hul (fun hb => ?_) (fun hb => ?_)
    · unfold wX7_orders_47
      refine ⟨fun h => absurd h (by decide), fun _ => ?_⟩
      simp (disch := omega) only [q32, q64, nI_add, nI_ltI, nI_leI, nI_eq, nI_clamp, vp_in_nI, lN_add, lN_mul, pk_lLT, pk_lLE, pk_lEQ, nI_l, lN_i, nI_sub, nI_an, lN_sub, lN_an, Nat.add_sub_cancel, and_true, true_and, g1]
      refine ih _ (z_up f (k + 1) (f k)) (by omega) (fun j hj hn' => ?_) (fun j hj => ?_)
      · by_cases e1 : j = k + 1
        · subst e1; rw [pk_us, z_up_s]; exact ⟨rfl, g2⟩
        · rw [pk_un e1, z_up_n e1]; exact hg j hj e1
      · rw [← hf j hj]
        rw [z_ins, if_pos (by rw [← hbb]; exact hb)]
    · unfold wX7_orders_47
      refine ⟨fun _ => ?_, fun h => absurd rfl h⟩
      refine put (k + 1) g f hk hg (fun j hj => ?_)
      rw [← hf j hj, z_ins, if_neg (by rw [← hbb, hb]; decide)]
theorem s7_orders {n e : Nat} {W P : Nat → Nat} {t_all : Nat → Int32} (hA : y_all n W P t_all) {post : Int32 → (Nat → Int32) → (Nat → Int32) → (Nat → Int64) → (Nat → Int64) → Prop} {v1 : Int32} (hv : ∀ i, i < n → (nI i = v1 ↔ i = e))
    {t_many : Int32} {t_orderOf t_placeOf : Nat → Int32} {t_w t_p : Nat → Int64}
    (hk : ∀ (t_orderOf t_placeOf : Nat → Int32) (t_w t_p : Nat → Int64), (∀ j, j < z_c e n → t_orderOf j = nI (z_u e (z_o e W P (z_c e n) j))) → (∀ i, i < z_c e n → t_placeOf (z_u e i) = nI (z_pl (z_o e W P (z_c e n)) i (z_c e n))) → (∀ j, j < z_c e n → t_w j = lN (W (z_u e (z_o e W P (z_c e n) j))) ∧ t_p j = lN (P (z_u e (z_o e W P (z_c e n) j)))) → post (nI (z_c e n)) t_orderOf t_placeOf t_w t_p) :
    wX7_orders t_all post t_many t_orderOf t_placeOf t_w t_p v1 := by
  have hn := hA.2.1
  have h0 := hA.1
  unfold wX7_orders
  refine ⟨n + 1, ?_⟩
  have main : ∀ (r i : Nat) (g : Nat → Int32), i + r = n → (∀ j, j < z_c e i → g j = nI (z_u e (z_o e W P (z_c e i) j))) → wX7_orders_7 t_all post (r + 1) (nI (z_c e i)) g t_placeOf t_w t_p v1 (nI i) := by
    intro r
    induction r with
    | zero =>
      intro i g hir hg
      rw [wX7_orders_7]
      unfold wX7_orders_7_b
      have hi' : i = n := by omega
      subst hi'
      simp (disch := omega) only [q32, q64, nI_add, nI_ltI, nI_leI, nI_eq, nI_clamp, vp_in_nI, lN_add, lN_mul, pk_lLT, pk_lLE, pk_lEQ, nI_l, lN_i, nI_sub, nI_an, lN_sub, lN_an, Nat.add_sub_cancel, and_true, true_and, h0]
      refine ⟨fun _ => ⟨z_c e i + 1, ?_⟩, fun h => absurd (Nat.le_refl _) h⟩
      exact s7_orders_95 hA hg (fun a b c h1 h2 => hk g a b c hg h1 h2) (z_c e i) 0 _ _ _ (by omega) (fun i _ h => by obtain ⟨j, h1, _⟩ := h; omega) (fun j h => by omega)
    | succ r ih =>
      intro i g hir hg
      rw [wX7_orders_7]
      unfold wX7_orders_7_b
      have hin : i < n := by omega
      simp (disch := omega) only [q32, q64, nI_add, nI_ltI, nI_leI, nI_eq, nI_clamp, vp_in_nI, lN_add, lN_mul, pk_lLT, pk_lLE, pk_lEQ, nI_l, lN_i, nI_sub, nI_an, lN_sub, lN_an, Nat.add_sub_cancel, and_true, true_and, h0]
      refine ⟨fun h => by omega, fun _ => ⟨fun h => ?_, fun h => ?_⟩⟩
      · have hie := (hv i hin).mp h
        unfold wX7_orders_87
        rw [nI_1]
        have := ih (i + 1) g (by omega) (by
          subst hie
          rw [z_c_e]; exact hg)
        subst hie
        rw [z_c_e] at this
        exact this
      · have hie : i ≠ e := fun z => h ((hv i hin).mpr z)
        refine ⟨z_c e i + 1, ?_⟩
        refine s7_orders_30 hA hin hie (fun g' hg' => ih (i + 1) g' (by omega) hg') (z_c e i) g (z_o e W P (z_c e i)) (Nat.le_refl _) (fun j hj hne => ?_) (fun j hj => ?_)
        · exact ⟨hg j (by omega), z_ord_lt (by omega)⟩
        · rw [z_c_s hie]; rfl
  exact main n 0 t_orderOf (by omega) (fun j hj => absurd hj (by unfold z_c; split <;> omega))
