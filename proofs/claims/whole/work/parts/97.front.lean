/-! the front and its corners -/
theorem c_tr1 {x u y v z t : Int} (hu : 0 < u) (hv : 0 < v) (ht : 0 < t) (h1 : x * v ≤ y * u) (h2 : y * t < z * v) : x * t < z * u := by
  have a : x * v * t ≤ y * u * t := Int.mul_le_mul_of_nonneg_right h1 (by omega)
  have b : y * t * u < z * v * u := Int.mul_lt_mul_of_pos_right h2 hu
  have e1 : y * u * t = y * t * u := by rw [Int.mul_assoc, Int.mul_comm u t, ← Int.mul_assoc]
  have e2 : x * v * t = x * t * v := by rw [Int.mul_assoc, Int.mul_comm v t, ← Int.mul_assoc]
  have e3 : z * v * u = z * u * v := by rw [Int.mul_assoc, Int.mul_comm v u, ← Int.mul_assoc]
  rw [e1, e2] at a
  rw [e3] at b
  exact Int.lt_of_mul_lt_mul_right (Int.lt_of_le_of_lt a b) (by omega)
theorem c_tr2 {x u z t p r : Int} (hu : 0 < u) (ht : 0 < t) (hr : 0 < r) (h1 : x * t < z * u) (h2 : z * r ≤ p * t) : x * r < p * u := by
  have a : x * t * r < z * u * r := Int.mul_lt_mul_of_pos_right h1 hr
  have b : z * r * u ≤ p * t * u := Int.mul_le_mul_of_nonneg_right h2 (by omega)
  have e1 : z * u * r = z * r * u := by rw [Int.mul_assoc, Int.mul_comm u r, ← Int.mul_assoc]
  have e2 : x * t * r = x * r * t := by rw [Int.mul_assoc, Int.mul_comm t r, ← Int.mul_assoc]
  have e3 : p * t * u = p * u * t := by rw [Int.mul_assoc, Int.mul_comm t u, ← Int.mul_assoc]
  rw [e1, e2] at a
  rw [e3] at b
  exact Int.lt_of_mul_lt_mul_right (Int.lt_of_lt_of_le a b) (by omega)
theorem c_tr3 {x u z t p r : Int} (hu : 0 < u) (ht : 0 < t) (hr : 0 < r) (h1 : x * t ≤ z * u) (h2 : z * r ≤ p * t) : x * r ≤ p * u := by
  have a : x * t * r ≤ z * u * r := Int.mul_le_mul_of_nonneg_right h1 (by omega)
  have b : z * r * u ≤ p * t * u := Int.mul_le_mul_of_nonneg_right h2 (by omega)
  have e1 : z * u * r = z * r * u := by rw [Int.mul_assoc, Int.mul_comm u r, ← Int.mul_assoc]
  have e2 : x * t * r = x * r * t := by rw [Int.mul_assoc, Int.mul_comm t r, ← Int.mul_assoc]
  have e3 : p * t * u = p * u * t := by rw [Int.mul_assoc, Int.mul_comm t u, ← Int.mul_assoc]
  rw [e1, e2] at a
  rw [e3] at b
  exact Int.le_of_mul_le_mul_right (Int.le_trans a b) ht
/-- above all lines -/
def z_cor (A B : Nat → Nat) (n k : Nat) : Prop := ∀ i j, i < k → k < j → j < n → ((B j : Int) - B k) * ((A k : Int) - A i) < ((B k : Int) - B i) * ((A j : Int) - A k)
noncomputable def z_corb (A B : Nat → Nat) (n k : Nat) : Int64 := @ite _ (z_cor A B n k) (Classical.propDecidable _) 1 0
def c_row (A B : Nat → Nat) (n : Nat) : Prop := ∀ i, i < n → A i < 2 ^ 31 ∧ B i < 2 ^ 31
theorem c_bd {a b c d : Nat} (ha : a < 2 ^ 31) (hb : b < 2 ^ 31) (hc : c < 2 ^ 31) (hd : d < 2 ^ 31) : -2 ^ 62 ≤ ((a : Int) - b) * ((c : Int) - d) ∧ ((a : Int) - b) * ((c : Int) - d) ≤ 2 ^ 62 := by
  have h : (((a : Int) - b) * ((c : Int) - d)).natAbs ≤ 2 ^ 31 * 2 ^ 31 := by
    rw [Int.natAbs_mul]
    exact Nat.mul_le_mul (by omega) (by omega)
  omega
theorem s4_isSteeper {A B : Nat → Nat} {n cap a b c d : Nat} {sw sp : Nat → Int32} {post : Int32 → Prop} (hr : c_row A B n) (hw : ∀ i, i < n → sw i = nI (A i) ∧ sp i = nI (B i)) (hn : n ≤ cap) (hc : cap ≤ 2048) (ha : a < n) (hb : b < n) (hc2 : c < n) (hd : d < n)
    (h1 : ((B d : Int) - B c) * ((A b : Int) - A a) < ((B b : Int) - B a) * ((A d : Int) - A c) → post 1) (h0 : ¬ ((B d : Int) - B c) * ((A b : Int) - A a) < ((B b : Int) - B a) * ((A d : Int) - A c) → post 0) :
    wX4_isSteeper sp cap sw cap post (nI a) (nI b) (nI c) (nI d) := by
  have ra := hr a ha
  have rb := hr b hb
  have rc := hr c hc2
  have rd := hr d hd
  unfold wX4_isSteeper
  rw [nI_clamp (show a < 2 ^ 31 by omega), nI_clamp (show b < 2 ^ 31 by omega), nI_clamp (show c < 2 ^ 31 by omega), nI_clamp (show d < 2 ^ 31 by omega), (hw a ha).1, (hw a ha).2, (hw b hb).1, (hw b hb).2, (hw c hc2).1, (hw c hc2).2, (hw d hd).1, (hw d hd).2, nI_l ra.1, nI_l ra.2, nI_l rb.1, nI_l rb.2, nI_l rc.1, nI_l rc.2, nI_l rd.1, nI_l rd.2]
  have m1 := c_bd rb.2 ra.2 rd.1 rc.1
  have m2 := c_bd rd.2 rc.2 rb.1 ra.1
  have e1 := l_mulI (l_sub_t (a := B b) (b := B a) (by omega) (by omega)) (l_sub_t (a := A d) (b := A c) (by omega) (by omega)) (by omega) (by omega)
  have e2 := l_mulI (l_sub_t (a := B d) (b := B c) (by omega) (by omega)) (l_sub_t (a := A b) (b := A a) (by omega) (by omega)) (by omega) (by omega)
  rw [Int64.le_iff_toInt_le, e1, e2]
  exact ⟨vp_in_nI (by omega) (by omega), vp_in_nI (by omega) (by omega), vp_in_nI (by omega) (by omega), vp_in_nI (by omega) (by omega), vp_in_nI (by omega) (by omega), vp_in_nI (by omega) (by omega), vp_in_nI (by omega) (by omega), vp_in_nI (by omega) (by omega), fun z => h0 (by omega), fun z => h1 (by omega)⟩
theorem s4_isCorner {A B : Nat → Nat} {n cap k : Nat} {sw sp : Nat → Int32} {post : Int32 → Prop} (hr : c_row A B n) (hi : ∀ i j, i < j → j < n → A i < A j) (hw : ∀ i, i < n → sw i = nI (A i) ∧ sp i = nI (B i)) (hn : n ≤ cap) (hc : cap ≤ 2048) (hk : k < n)
    (h1 : z_cor A B n k → post 1) (h0 : ¬ z_cor A B n k → post 0) : wX4_isCorner (nI n) sp cap sw cap post (nI k) := by
  unfold wX4_isCorner
  have e1 : nI n - 1 = nI (n - 1) := nI_sub (b := 1) (by omega)
  rw [e1, show (0 : Int32) = nI 0 from rfl, nI_leI (by omega) (by omega), nI_ltI (by omega) (by omega)]
  refine ⟨fun g => h1 (fun i j hi' => by omega), fun g => ⟨fun g2 => ⟨k, ?_⟩, fun g2 => h1 (fun i j _ hj hj2 => by omega)⟩⟩
  have last : ∀ f s, f < k → k < s → s < n → (∀ i, i < k → ((B k : Int) - B f) * ((A k : Int) - A i) ≤ ((B k : Int) - B i) * ((A k : Int) - A f)) → (∀ j, k < j → j < n → ((B j : Int) - B k) * ((A s : Int) - A k) ≤ ((B s : Int) - B k) * ((A j : Int) - A k)) → wX4_isSteeper sp cap sw cap (fun r88 => narrow .boolean (.int r88) = .int r88 ∧ post r88) (nI f) (nI k) (nI k) (nI s) := by
    intro f s hf hs hsn hF hS
    refine s4_isSteeper hr hw hn hc (by omega) hk hk hsn (fun z => ⟨rfl, h1 (fun i j hik hkj hjn => ?_)⟩) (fun z => ⟨rfl, h0 (fun y => z (y f s hf hs hsn))⟩)
    have p1 := hi k j hkj hjn
    have p2 := hi k s hs hsn
    have p3 := hi f k hf hk
    have p4 := hi i k hik hk
    exact c_tr2 (t := (A k : Int) - A f) (z := (B k : Int) - B f) (by omega) (by omega) (by omega) (c_tr1 (v := (A s : Int) - A k) (y := (B s : Int) - B k) (by omega) (by omega) (by omega) (hS j hkj hjn) z) (hF i hik)
  have loop2 : ∀ (r j f s : Nat), j + r = n → k + 1 < j → f < k → k < s → s < j → (∀ i, i < k → ((B k : Int) - B f) * ((A k : Int) - A i) ≤ ((B k : Int) - B i) * ((A k : Int) - A f)) → (∀ j', k < j' → j' < j → ((B j' : Int) - B k) * ((A s : Int) - A k) ≤ ((B s : Int) - B k) * ((A j' : Int) - A k)) → wX4_isCorner_53 (nI n) sp cap sw cap post (r + 1) (nI k) (nI f) (nI s) (nI j) := by
    intro r
    induction r with
    | zero =>
      intro j f s hj hkj hf hs hsj hF hS
      have e : j = n := by omega
      subst e
      rw [wX4_isCorner_53]
      unfold wX4_isCorner_53_b
      exact ⟨fun _ => last f s hf hs hsj hF hS, fun z => absurd (Int32.le_refl _) z⟩
    | succ r ih =>
      intro j f s hj hkj hf hs hsj hF hS
      rw [wX4_isCorner_53]
      unfold wX4_isCorner_53_b
      rw [nI_leI (by omega) (by omega)]
      refine ⟨fun z => by omega, fun _ => ?_⟩
      have p1 := hi k j (by omega) (by omega)
      have p2 := hi k s hs (by omega)
      refine s4_isSteeper hr hw hn hc hk (by omega) hk (by omega) (fun z => ?_) (fun z => ?_)
      · unfold wX4_isCorner_71 wX4_isCorner_77
        refine ⟨fun y => absurd y (by decide), fun _ => ?_⟩
        rw [nI_1]
        refine ih (j + 1) f j (by omega) (by omega) hf (by omega) (by omega) hF (fun j' h1 h2 => ?_)
        by_cases e : j' = j
        · subst e; exact Int.le_refl _
        · have p3 := hi k j' h1 (by omega)
          exact c_tr3 (t := (A s : Int) - A k) (z := (B s : Int) - B k) (by omega) (by omega) (by omega) (hS j' h1 (by omega)) (by omega)
      · unfold wX4_isCorner_71 wX4_isCorner_77
        refine ⟨fun _ => ?_, fun y => absurd rfl y⟩
        rw [nI_1]
        refine ih (j + 1) f s (by omega) (by omega) hf hs (by omega) hF (fun j' h1 h2 => ?_)
        by_cases e : j' = j
        · subst e; omega
        · exact hS j' h1 (by omega)
  have loop1 : ∀ (r i f : Nat), i + r = k → f < i → (∀ i', i' < i → ((B k : Int) - B f) * ((A k : Int) - A i') ≤ ((B k : Int) - B i') * ((A k : Int) - A f)) → wX4_isCorner_20 (nI n) sp cap sw cap post (r + 1) (nI k) (nI f) (nI i) := by
    intro r
    induction r with
    | zero =>
      intro i f hir hf hF
      have e : i = k := by omega
      subst e
      rw [wX4_isCorner_20]
      unfold wX4_isCorner_20_b
      refine ⟨fun _ => ⟨n - (i + 2) + 1, ?_⟩, fun z => absurd (Int32.le_refl _) z⟩
      rw [nI_1, show nI i + 2 = nI (i + 2) from nI_add i 2]
      refine loop2 (n - (i + 2)) (i + 2) f (i + 1) (by omega) (by omega) hf (by omega) (by omega) hF (fun j' h1 h2 => ?_)
      have e : j' = i + 1 := by omega
      subst e
      exact Int.le_refl _
    | succ r ih =>
      intro i f hir hf hF
      rw [wX4_isCorner_20]
      unfold wX4_isCorner_20_b
      rw [nI_leI (by omega) (by omega)]
      refine ⟨fun z => by omega, fun _ => ?_⟩
      have p1 := hi i k (by omega) hk
      have p2 := hi f k (by omega) hk
      refine s4_isSteeper hr hw hn hc (by omega) hk (by omega) hk (fun z => ?_) (fun z => ?_)
      · unfold wX4_isCorner_33 wX4_isCorner_38
        refine ⟨fun y => absurd y (by decide), fun _ => ?_⟩
        rw [nI_1]
        refine ih (i + 1) i (by omega) (by omega) (fun i' h => ?_)
        by_cases e : i' = i
        · subst e; exact Int.le_refl _
        · have p3 := hi i' k (by omega) hk
          exact c_tr3 (t := (A k : Int) - A f) (z := (B k : Int) - B f) (by omega) (by omega) (by omega) (by omega) (hF i' (by omega))
      · unfold wX4_isCorner_33 wX4_isCorner_38
        refine ⟨fun _ => ?_, fun y => absurd rfl y⟩
        rw [nI_1]
        refine ih (i + 1) f (by omega) (by omega) (fun i' h => ?_)
        by_cases e : i' = i
        · subst e; omega
        · exact hF i' (by omega)
  have := loop1 (k - 1) 1 0 (by omega) (by omega) (fun i' h => by
    have e : i' = 0 := by omega
    subst e
    exact Int.le_refl _)
  rw [show k - 1 + 1 = k by omega] at this
  exact this
theorem s7_isCorner {A B : Nat → Nat} {n k : Nat} {sw sp : Nat → Int64} {post : Int32 → Prop} (hr : c_row A B n) (hw : ∀ i, i < n → sw i = lN (A i) ∧ sp i = lN (B i)) (hn : n ≤ 1000) (hk : k < n)
    (h1 : z_cor A B n k → post 1) (h0 : ¬ z_cor A B n k → post 0) : wX7_isCorner (nI n) sp sw post (nI k) := by
  have main : ∀ (r i : Nat), i + r = k → (∀ i' j, i' < i → k < j → j < n → ((B j : Int) - B k) * ((A k : Int) - A i') < ((B k : Int) - B i') * ((A j : Int) - A k)) → wX7_isCorner_2 (nI n) sp sw post (r + 1) (nI k) (nI i) := by
    intro r
    induction r with
    | zero =>
      intro i hir hF
      have e : i = k := by omega
      subst e
      rw [wX7_isCorner_2]
      unfold wX7_isCorner_2_b
      exact ⟨fun _ => h1 hF, fun z => absurd (Int32.le_refl _) z⟩
    | succ r ih =>
      intro i hir hF
      rw [wX7_isCorner_2]
      unfold wX7_isCorner_2_b
      rw [nI_leI (by omega) (by omega), nI_1]
      refine ⟨fun z => by omega, fun _ => ⟨n - (k + 1) + 1, ?_⟩⟩
      have inner : ∀ (r2 j : Nat), j + r2 = n → k < j → (∀ j', k < j' → j' < j → ((B j' : Int) - B k) * ((A k : Int) - A i) < ((B k : Int) - B i) * ((A j' : Int) - A k)) → wX7_isCorner_11 (nI n) sp sw (wX7_isCorner_2 (nI n) sp sw post (r + 1)) post (r2 + 1) (nI k) (nI i) (nI j) := by
        intro r2
        induction r2 with
        | zero =>
          intro j hjr hkj hG
          have e : j = n := by omega
          subst e
          rw [wX7_isCorner_11]
          unfold wX7_isCorner_11_b
          refine ⟨fun _ => ?_, fun z => absurd (Int32.le_refl _) z⟩
          rw [nI_1]
          refine ih (i + 1) (by omega) (fun i' j' h1 h2 h3 => ?_)
          by_cases e : i' = i
          · subst e; exact hG j' h2 h3
          · exact hF i' j' (by omega) h2 h3
        | succ r2 ih2 =>
          intro j hjr hkj hG
          have rk := hr k hk
          have ri := hr i (by omega)
          have rj := hr j (by omega)
          rw [wX7_isCorner_11]
          unfold wX7_isCorner_11_b
          have m1 := c_bd rk.2 ri.2 rj.1 ri.1
          have m2 := c_bd rj.2 ri.2 rk.1 ri.1
          have e1 := l_mulI (l_sub_t (a := B k) (b := B i) (by omega) (by omega)) (l_sub_t (a := A j) (b := A i) (by omega) (by omega)) (by omega) (by omega)
          have e2 := l_mulI (l_sub_t (a := B j) (b := B i) (by omega) (by omega)) (l_sub_t (a := A k) (b := A i) (by omega) (by omega)) (by omega) (by omega)
          have x1 : ((B k : Int) - B i) * ((A j : Int) - A i) = ((B k : Int) - B i) * ((A j : Int) - A k) + ((B k : Int) - B i) * ((A k : Int) - A i) := by
            rw [← Int.mul_add]; congr 1; omega
          have x2 : ((B j : Int) - B i) * ((A k : Int) - A i) = ((B j : Int) - B k) * ((A k : Int) - A i) + ((B k : Int) - B i) * ((A k : Int) - A i) := by
            rw [← Int.add_mul]; congr 1; omega
          rw [nI_leI (by omega) (by omega), nI_clamp (show k < 2 ^ 31 by omega), nI_clamp (show i < 2 ^ 31 by omega), nI_clamp (show j < 2 ^ 31 by omega), (hw k hk).1, (hw k hk).2, (hw i (by omega)).1, (hw i (by omega)).2, (hw j (by omega)).1, (hw j (by omega)).2, Int64.lt_iff_toInt_lt, e1, e2, x1, x2, nI_1, nI_1]
          refine ⟨fun z => by omega, fun _ => ⟨vp_in_nI (by omega) (by omega), vp_in_nI (by omega) (by omega), vp_in_nI (by omega) (by omega), vp_in_nI (by omega) (by omega), vp_in_nI (by omega) (by omega), vp_in_nI (by omega) (by omega), vp_in_nI (by omega) (by omega), vp_in_nI (by omega) (by omega), fun z => ih2 (j + 1) (by omega) (by omega) (fun j' g1 g2 => ?_), fun z => h0 (fun y => z ?_)⟩⟩
          · by_cases e : j' = j
            · subst e; omega
            · exact hG j' g1 (by omega)
          · have := y i j (by omega) hkj (by omega)
            omega
      exact inner (n - (k + 1)) (k + 1) (by omega) (by omega) (fun j' g1 g2 => by omega)
  unfold wX7_isCorner
  exact ⟨k + 1, main k 0 (by omega) (fun i' j h => by omega)⟩
abbrev l_front (L : ZL) : Option (List ZT) := z_front (l_w L) (l_p L) L.2.2.2.2.1 (l_n L) 0 [(0, 0, 0)]
/-- how long the two rows are behind it -/
def z_fq (w p : Nat → Nat) (M : Nat) : Nat → Nat → List ZT → Nat × Nat → Nat × Nat
  | 0, _, _, q => q
  | r + 1, k, L, q => if M < (z_next (z_shR w p k) L).length then (q.1, z_cp q.2 (min (z_next (z_shR w p k) L).length M)) else z_fq w p M r (k + 1) (z_next (z_shR w p k) L) (z_cp q.2 (min (z_next (z_shR w p k) L).length M), q.1)
theorem z_fq_ok {w p : Nat → Nat} {M : Nat} (hM : M ≤ 1000) : ∀ {r k : Nat} {L : List ZT} {q : Nat × Nat}, z_pw q.1 → z_pw q.2 → (z_pw (z_fq w p M r k L q).1 ∧ z_pw (z_fq w p M r k L q).2) ∧ z_sum q ≤ z_sum (z_fq w p M r k L q)
  | 0, k, L, q, h1, h2 => ⟨⟨h1, h2⟩, Nat.le_refl _⟩
  | r + 1, k, L, q, h1, h2 => by
    have hcp := z_cp_pw h2 (n := min (z_next (z_shR w p k) L).length M) (by omega)
    have hle := (z_cp_le (c := q.2) (by have := h2.le; omega) (n := min (z_next (z_shR w p k) L).length M)).2
    unfold z_fq
    split
    · refine ⟨⟨h1, hcp⟩, ?_⟩
      show q.1 + q.2 ≤ q.1 + z_cp q.2 (min (z_next (z_shR w p k) L).length M)
      omega
    · obtain ⟨a, b⟩ := z_fq_ok (w := w) (p := p) hM (r := r) (k := k + 1) (L := z_next (z_shR w p k) L) (q := (z_cp q.2 (min (z_next (z_shR w p k) L).length M), q.1)) hcp h1
      refine ⟨a, Nat.le_trans ?_ b⟩
      show q.1 + q.2 ≤ z_cp q.2 (min (z_next (z_shR w p k) L).length M) + q.1
      omega
abbrev l_fq (L : ZL) (q : Nat × Nat) : Nat × Nat := z_fq (l_w L) (l_p L) L.2.2.2.2.1 (l_n L) 0 [(0, 0, 0)] q
/-- the front as the class keeps it -/
def x_frt (L : ZL) (fs sz : Int32) (fw fp : Nat → Int32) (fb : Nat → Int64) (cap : Nat) : Prop :=
  (fs = 0) ∨ (fs = 1 ∧ ∃ F, l_front L = some F ∧ sz = nI F.length ∧ x_set F fw fp fb ∧ F.length ≤ cap ∧ z_okF (l_w L) (l_p L) L.2.2.2.2.1 (l_n L) F) ∨ (fs = 2 ∧ l_front L = none)
def z_fqs (L : ZL) (fs : Int32) (q : Nat × Nat) : Nat × Nat := if fs = 0 then l_fq L q else q
theorem s6_makeFront {L : ZL} {q : Nat × Nat} {mb : Nat} {t_core_ranked_weights t_core_ranked_profits : Nat → Int32} {post : Int32 → Int32 → Int32 → (Nat → Int32) → Nat → (Nat → Int32) → Nat → (Nat → Int64) → Nat → (Nat → Int32) → Nat → (Nat → Int32) → Nat → (Nat → Int64) → Nat → Prop} {t_frontState t_front_size t_frontSpare_size : Int32} {t_front_weights t_front_profits : Nat → Int32} {t_front_bits : Nat → Int64} {t_frontSpare_profits t_frontSpare_weights : Nat → Int32} {t_frontSpare_bits : Nat → Int64} (hl : l_lim L) (hwp : x_wp (l_n L) (l_w L) (l_p L) t_core_ranked_weights t_core_ranked_profits) (h1 : z_pw q.1) (h2 : z_pw q.2) (hf : x_frt L t_frontState t_front_size t_front_weights t_front_profits t_front_bits q.1) (hmb : 6 * (z_sum (z_fqs L t_frontState q) - z_sum q) ≤ mb)
    (hk : ∀ (t_frontState' t_front_size' t_frontSpare_size' : Int32) (t_front_weights' : Nat → Int32) (n_t_front_weights' : Nat) (t_front_profits' : Nat → Int32) (n_t_front_profits' : Nat) (t_front_bits' : Nat → Int64) (n_t_front_bits' : Nat) (t_frontSpare_profits' : Nat → Int32) (n_t_frontSpare_profits' : Nat) (t_frontSpare_weights' : Nat → Int32) (n_t_frontSpare_weights' : Nat) (t_frontSpare_bits' : Nat → Int64) (n_t_frontSpare_bits' : Nat), t_frontState' ≠ 0 → x_frt L t_frontState' t_front_size' t_front_weights' t_front_profits' t_front_bits' (z_fqs L t_frontState q).1 → n_t_front_weights' = (z_fqs L t_frontState q).1 → n_t_front_profits' = (z_fqs L t_frontState q).1 → n_t_front_bits' = (z_fqs L t_frontState q).1 → n_t_frontSpare_profits' = (z_fqs L t_frontState q).2 → n_t_frontSpare_weights' = (z_fqs L t_frontState q).2 → n_t_frontSpare_bits' = (z_fqs L t_frontState q).2 →  post t_frontState' t_front_size' t_frontSpare_size' t_front_weights' n_t_front_weights' t_front_profits' n_t_front_profits' t_front_bits' n_t_front_bits' t_frontSpare_profits' n_t_frontSpare_profits' t_frontSpare_weights' n_t_frontSpare_weights' t_frontSpare_bits' n_t_frontSpare_bits') :
    wX6_makeFront mb (nI (l_n L)) (nI L.2.2.2.2.1) t_core_ranked_weights t_core_ranked_profits post t_frontState t_front_size t_frontSpare_size t_front_weights q.1 t_front_profits q.1 t_front_bits q.1 t_frontSpare_profits q.2 t_frontSpare_weights q.2 t_frontSpare_bits q.2 := by
  have hbd := z_lim_bd hl 60
  have hcl : l_n L = z_c 60 L.1 := rfl
  have hckl : l_bk L = z_bk (z_w 60 L.2.1 L.2.2.1 L.1) L.2.2.2.1 (z_c 60 L.1) 0 := rfl
  have hn := hbd.1
  obtain ⟨l1, l2, l3, l4, l5, l6, l7⟩ := id hl
  unfold z_fqs at hk hmb
  unfold wX6_makeFront
  refine ⟨fun h0 => ?_, fun h0 => ?_⟩
  · rw [if_pos h0] at hk hmb
    have hc1 := h1.le
    unfold wX4_put_v0
    rw [show ((0 : Int32)).toNatClampNeg = 0 from rfl]
    refine ⟨nI_lt (a := 0) (by omega) (by omega), vp_in_nI (n := 0) (by omega) (by omega), vp_in_nI (n := 0) (by omega) (by omega), vp_in_nI (n := 0) (by omega) (by omega), ?_⟩
    unfold wX6_makeFront_26
    refine ⟨l_n L + 1, ?_⟩
    have main : ∀ (r k : Nat) (F : List ZT) (q2 : Nat × Nat) (g0 : Nat) (fs sz2 : Int32) (fw fp : Nat → Int32) (fb : Nat → Int64) (sp sw : Nat → Int32) (sb : Nat → Int64), k + r = l_n L → z_okF (l_w L) (l_p L) L.2.2.2.2.1 k F → F.length ≤ q2.1 → z_pw q2.1 → z_pw q2.2 → x_set F fw fp fb → g0 + 6 * z_sum q = 6 * z_sum q2 →
        z_front (l_w L) (l_p L) L.2.2.2.2.1 r k F = l_front L → z_fq (l_w L) (l_p L) L.2.2.2.2.1 r k F q2 = l_fq L q →
        wX6_makeFront_36 mb (nI (l_n L)) (nI L.2.2.2.2.1) t_core_ranked_weights t_core_ranked_profits post (r + 1) g0 fs (nI F.length) sz2 fw q2.1 fp q2.1 fb q2.1 sp q2.2 sw q2.2 sb q2.2 (nI k) := by
      intro r
      induction r with
      | zero =>
        intro k F q2 g0 fs sz2 fw fp fb sp sw sb hkr hok hlen hp1 hp2 hset hg hF hQ
        rw [z_front] at hF
        rw [z_fq] at hQ
        have e : k = l_n L := by omega
        subst e
        rw [wX6_makeFront_36]
        unfold wX6_makeFront_36_b
        rw [← hQ] at hk
        exact ⟨fun _ => hk _ _ _ _ _ _ _ _ _ _ _ _ _ _ _ (by decide) (Or.inr (Or.inl ⟨rfl, F, hF.symm, rfl, hset, hlen, hok⟩)) rfl rfl rfl rfl rfl rfl, fun z => absurd (Int32.le_refl _) z⟩
      | succ r ih =>
        intro k F q2 g0 fs sz2 fw fp fb sp sw sb hkr hok hlen hp1 hp2 hset hg hF hQ
        have hkn : k < l_n L := by omega
        obtain ⟨x1, x2⟩ := hwp k hkn
        have lk := hbd.lt hkn
        have hc2 := hp1.le
        have hc3 := hp2.le
        obtain ⟨o1, o2, o3, -⟩ := z_okF_s hok
        have hcpw := z_cp_pw hp2 (n := min (z_next (z_shR (l_w L) (l_p L) k) F).length L.2.2.2.2.1) (by omega)
        have hcpl := (z_cp_le (c := q2.2) (by omega) (n := min (z_next (z_shR (l_w L) (l_p L) k) F).length L.2.2.2.2.1))
        have hsh : ((1 : Int64) <<< ((nI k).toInt64 &&& 63)) = lN (2 ^ k) := by
          rw [show (1 : Int64) = lN 1 from rfl, wb_shl 1 (by omega), Nat.one_mul]
        have hpw : 2 ^ k ≤ 2 ^ 59 := z_pow_le (by omega)
        have hsL : ∀ s ∈ F, s.1 < 2 ^ 31 ∧ s.2.1 < 2 ^ 31 ∧ s.2.2 < 2 ^ 60 := fun s hs => z_in_lt hbd (by omega) (hok.2.1 s hs)
        have hmono : z_sum (z_fq (l_w L) (l_p L) L.2.2.2.2.1 (r + 1) k F q2) = z_sum (l_fq L q) := by rw [hQ]
        have hcost : z_sum q2 + (z_cp q2.2 (min (z_next (z_shR (l_w L) (l_p L) k) F).length L.2.2.2.2.1) - q2.2) ≤ z_sum (l_fq L q) := by
          rw [← hmono]
          unfold z_fq
          split
          · show q2.1 + q2.2 + _ ≤ q2.1 + z_cp q2.2 _
            omega
          · have := (z_fq_ok (w := l_w L) (p := l_p L) l7 (r := r) (k := k + 1) (L := z_next (z_shR (l_w L) (l_p L) k) F) (q := (z_cp q2.2 (min (z_next (z_shR (l_w L) (l_p L) k) F).length L.2.2.2.2.1), q2.1)) hcpw hp1).2
            refine Nat.le_trans ?_ this
            show q2.1 + q2.2 + _ ≤ z_cp q2.2 _ + q2.1
            omega
        rw [z_front] at hF
        rw [z_fq] at hQ
        rw [wX6_makeFront_36]
        unfold wX6_makeFront_36_b
        rw [nI_leI (by omega) (by omega), nI_clamp (by omega), x1, x2, hsh]
        refine ⟨fun z => by omega, fun _ => ⟨vp_in_nI (by omega) (by omega), vp_in_nI (by omega) (by omega), 6 * (z_cp q2.2 (min (z_next (z_shR (l_w L) (l_p L) k) F).length L.2.2.2.2.1) - q2.2), by omega, ?_⟩⟩
        refine s4_mergeOf (sh := z_shR (l_w L) (l_p L) k) hset hlen (by omega) (Nat.le_trans hok.2.2 l7) hp2 l7 (fun s hs => ?_) (fun s hs => ⟨nI_add _ _, nI_add _ _, lN_add _ _⟩) (Nat.le_refl _) (fun hle sw' sp' sb' hy => ?_) (fun hgt sw' sp' sb' => ?_)
        · have h7 := hsL s hs
          have h8 : (z_shR (l_w L) (l_p L) k s).1 < 2 ^ 31 ∧ (z_shR (l_w L) (l_p L) k s).2.1 < 2 ^ 31 ∧ (z_shR (l_w L) (l_p L) k s).2.2 < 2 ^ 60 := z_in_lt hbd (show k + 1 ≤ l_n L by omega) (z_in_R (hok.2.1 s hs) (Nat.zero_le _))
          exact ⟨⟨h7.1, h7.2.1, by omega⟩, ⟨h8.1, h8.2.1, by omega⟩⟩
        · rw [if_neg (by omega)] at hF hQ
          unfold wX6_makeFront_80
          refine ⟨fun z => absurd z (by decide), fun _ => ?_⟩
          rw [nI_1]
          refine ih (k + 1) (z_next (z_shR (l_w L) (l_p L) k) F) (z_cp q2.2 (min (z_next (z_shR (l_w L) (l_p L) k) F).length L.2.2.2.2.1), q2.1) _ _ _ _ _ _ _ _ _ (by omega) ⟨o1, o2, hle⟩ ?_ hcpw hp1 hy ?_ hF hQ
          · show (z_next (z_shR (l_w L) (l_p L) k) F).length ≤ z_cp q2.2 _
            omega
          · show g0 + 6 * (_ - q2.2) + 6 * z_sum q = 6 * (z_cp q2.2 _ + q2.1)
            have : 6 * z_sum q2 = 6 * (q2.1 + q2.2) := rfl
            omega
        · rw [if_pos (by omega)] at hF hQ
          unfold wX6_makeFront_80
          refine ⟨fun _ => ?_, fun z => absurd rfl z⟩
          rw [← hQ] at hk
          exact hk _ _ _ _ _ _ _ _ _ _ _ _ _ _ _ (by decide) (Or.inr (Or.inr ⟨rfl, hF.symm⟩)) rfl rfl rfl rfl rfl rfl
    refine main (l_n L) 0 [(0, 0, 0)] q _ _ _ _ _ _ _ _ _ (by omega) (z_okF_0 (by omega)) (by show 1 ≤ q.1; omega) h1 h2 (fun i hi => ?_) (Nat.zero_add _) rfl rfl
    have hi0 : i = 0 := by
      have : i < 1 := hi
      omega
    subst hi0
    rw [pk_us, pk_us, pk_uLs]
    exact ⟨rfl, rfl, rfl⟩
  · rw [if_neg h0] at hk
    exact hk _ _ _ _ _ _ _ _ _ _ _ _ _ _ _ h0 hf rfl rfl rfl rfl rfl rfl
abbrev c_A (F : List ZT) (i : Nat) : Nat := (F.getD i (0, 0, 0)).1
abbrev c_B (F : List ZT) (i : Nat) : Nat := (F.getD i (0, 0, 0)).2.1
theorem c_get {F : List ZT} {i : Nat} (h : i < F.length) : F.getD i (0, 0, 0) = F[i] := by
  rw [List.getD_eq_getElem?_getD, List.getElem?_eq_getElem h]
  rfl
def z_frv (F : Option (List ZT)) (v1 v2 : Int32) (r : Int64) : Prop := match F with
  | none => r = -2
  | some F => (v1 = -1 ∧ r = (if v2 = 0 then lN F.length else -1)) ∨ (¬ v1 = -1 ∧ ¬ (∃ i, v1 = nI i ∧ i < F.length) ∧ r = -1) ∨ ∃ i, ∃ h : i < F.length, v1 = nI i ∧ r = (if v2 = 0 then lN (F[i]).1 else if v2 = 1 then lN (F[i]).2.1 else if v2 = 2 then lN (F[i]).2.2 else if v2 = 3 then z_corb (c_A F) (c_B F) F.length i else -1)
theorem z_frv_un {F : Option (List ZT)} {v1 v2 : Int32} {a b : Int64} (hl : ∀ G, F = some G → G.length ≤ 1000) (ha : z_frv F v1 v2 a) (hb : z_frv F v1 v2 b) : a = b := by
  cases F with
  | none =>
    have ha' : a = -2 := ha
    have hb' : b = -2 := hb
    rw [ha', hb']
  | some F =>
    have hl' := hl F rfl
    rcases ha with ⟨h, rfl⟩ | ⟨h, h2, rfl⟩ | ⟨i, hi, rfl, ea⟩
    · rcases hb with ⟨_, rfl⟩ | ⟨h', _⟩ | ⟨j, hj, e, _⟩
      · rfl
      · exact absurd h h'
      · subst h; exact absurd e.symm (z_n1 (by omega))
    · rcases hb with ⟨h', _⟩ | ⟨_, _, rfl⟩ | ⟨j, hj, e, _⟩
      · exact absurd h' h
      · rfl
      · exact absurd ⟨j, e, hj⟩ h2
    · rcases hb with ⟨h', _⟩ | ⟨_, h2, _⟩ | ⟨j, hj, e, eb⟩
      · exact absurd h' (z_n1 (by omega))
      · exact absurd ⟨i, rfl, hi⟩ h2
      · rw [nI_eq (by omega) (by omega)] at e
        subst e
        rw [ea, eb]
theorem z_okF_row {w p : Nat → Nat} {n M : Nat} {F : List ZT} (hb : y_bd n w p) (h : z_okF w p M n F) : c_row (c_A F) (c_B F) F.length ∧ (∀ i j, i < j → j < F.length → c_A F i < c_A F j) := by
  refine ⟨fun i hi => ?_, fun i j hij hj => ?_⟩
  · have := z_in_lt hb (Nat.le_refl _) (h.2.1 _ (List.getElem_mem hi))
    show (F.getD i (0, 0, 0)).1 < _ ∧ (F.getD i (0, 0, 0)).2.1 < _
    rw [c_get hi]
    exact ⟨this.1, this.2.1⟩
  · show (F.getD i (0, 0, 0)).1 < (F.getD j (0, 0, 0)).1
    rw [c_get hj, c_get (by omega)]
    exact (List.pairwise_iff_getElem.mp h.1 i j (by omega) hj hij).1
theorem s6_front {L : ZL} {q : Nat × Nat} {mb : Nat} {t_core_ranked_weights t_core_ranked_profits : Nat → Int32} {post : Int64 → Int32 → Int32 → Int32 → (Nat → Int32) → Nat → (Nat → Int32) → Nat → (Nat → Int64) → Nat → (Nat → Int32) → Nat → (Nat → Int32) → Nat → (Nat → Int64) → Nat → Prop} {t_frontState t_front_size t_frontSpare_size : Int32} {t_front_weights t_front_profits : Nat → Int32} {t_front_bits : Nat → Int64} {t_frontSpare_profits t_frontSpare_weights : Nat → Int32} {t_frontSpare_bits : Nat → Int64} {v1 v2 : Int32} (hl : l_lim L) (hwp : x_wp (l_n L) (l_w L) (l_p L) t_core_ranked_weights t_core_ranked_profits) (h1 : z_pw q.1) (h2 : z_pw q.2) (hf : x_frt L t_frontState t_front_size t_front_weights t_front_profits t_front_bits q.1) (hmb : 6 * (z_sum (z_fqs L t_frontState q) - z_sum q) ≤ mb)
    (hk : ∀ (r : Int64) (t_frontState' t_front_size' t_frontSpare_size' : Int32) (t_front_weights' : Nat → Int32) (n_t_front_weights' : Nat) (t_front_profits' : Nat → Int32) (n_t_front_profits' : Nat) (t_front_bits' : Nat → Int64) (n_t_front_bits' : Nat) (t_frontSpare_profits' : Nat → Int32) (n_t_frontSpare_profits' : Nat) (t_frontSpare_weights' : Nat → Int32) (n_t_frontSpare_weights' : Nat) (t_frontSpare_bits' : Nat → Int64) (n_t_frontSpare_bits' : Nat), z_frv (l_front L) v1 v2 r → x_frt L t_frontState' t_front_size' t_front_weights' t_front_profits' t_front_bits' (z_fqs L t_frontState q).1 → n_t_front_weights' = (z_fqs L t_frontState q).1 → n_t_front_profits' = (z_fqs L t_frontState q).1 → n_t_front_bits' = (z_fqs L t_frontState q).1 → n_t_frontSpare_profits' = (z_fqs L t_frontState q).2 → n_t_frontSpare_weights' = (z_fqs L t_frontState q).2 → n_t_frontSpare_bits' = (z_fqs L t_frontState q).2 →  post r t_frontState' t_front_size' t_frontSpare_size' t_front_weights' n_t_front_weights' t_front_profits' n_t_front_profits' t_front_bits' n_t_front_bits' t_frontSpare_profits' n_t_frontSpare_profits' t_frontSpare_weights' n_t_frontSpare_weights' t_frontSpare_bits' n_t_frontSpare_bits') :
    wX6_front mb (nI (l_n L)) (nI L.2.2.2.2.1) t_core_ranked_weights t_core_ranked_profits post t_frontState t_front_size t_frontSpare_size t_front_weights q.1 t_front_profits q.1 t_front_bits q.1 t_frontSpare_profits q.2 t_frontSpare_weights q.2 t_frontSpare_bits q.2 v1 v2 := by
  have hbd := z_lim_bd hl 60
  have hcl : l_n L = z_c 60 L.1 := rfl
  have hckl : l_bk L = z_bk (z_w 60 L.2.1 L.2.2.1 L.1) L.2.2.2.1 (z_c 60 L.1) 0 := rfl
  have hqk : z_pw (z_fqs L t_frontState q).1 := by
    unfold z_fqs
    split
    · exact (z_fq_ok hl.2.2.2.2.2.2 h1 h2).1.1
    · exact h1
  have hql := hqk.le
  unfold wX6_front
  refine ⟨6 * (z_sum (z_fqs L t_frontState q) - z_sum q), by omega, ?_⟩
  refine s6_makeFront hl hwp h1 h2 hf (Nat.le_refl _) ?_
  intro fs sz sz2 fw n1 fp n2 fb n3 sp n4 sw n5 sb n6 hne hfr e1 e2 e3 e4 e5 e6
  subst e1 e2 e3 e4 e5 e6
  unfold wX6_front_4
  have hfr' := hfr
  rcases hfr with rfl | ⟨rfl, F, hF, rfl, hset, hlen, hok⟩ | ⟨rfl, hF⟩
  · exact absurd rfl hne
  · have hl1 : F.length ≤ 1000 := Nat.le_trans hok.2.2 hl.2.2.2.2.2.2
    obtain ⟨hrow, hinc⟩ := z_okF_row hbd hok
    have fin : ∀ (r : Int64), ((v1 = -1 ∧ r = (if v2 = 0 then lN F.length else -1)) ∨ (¬ v1 = -1 ∧ ¬ (∃ i, v1 = nI i ∧ i < F.length) ∧ r = -1) ∨ ∃ i, ∃ h : i < F.length, v1 = nI i ∧ r = (if v2 = 0 then lN (F[i]).1 else if v2 = 1 then lN (F[i]).2.1 else if v2 = 2 then lN (F[i]).2.2 else if v2 = 3 then z_corb (c_A F) (c_B F) F.length i else -1)) → z_frv (l_front L) v1 v2 r := fun r h => by rw [hF]; exact h
    refine ⟨fun z => absurd z (by decide), fun _ => ?_⟩
    have has : (v1 = -1 → ¬ v2 = 0) → wX6_front_34 mb (nI (l_n L)) (nI L.2.2.2.2.1) t_core_ranked_weights t_core_ranked_profits post (0 + 6 * (z_sum (z_fqs L t_frontState q) - z_sum q)) 1 (nI F.length) sz2 fw (z_fqs L t_frontState q).1 fp (z_fqs L t_frontState q).1 fb (z_fqs L t_frontState q).1 sp (z_fqs L t_frontState q).2 sw (z_fqs L t_frontState q).2 sb (z_fqs L t_frontState q).2 v1 v2 := by
      intro hv
      unfold wX6_front_34
      refine s4_has (by omega) (fun i e hi => ?_) (fun h => ?_)
      · subst e
        obtain ⟨s1, s2, s3⟩ := hset i hi
        have hs := z_in_lt hbd (Nat.le_refl _) (hok.2.1 _ (List.getElem_mem hi))
        have fin2 : ∀ (r : Int64), r = (if v2 = 0 then lN (F[i]).1 else if v2 = 1 then lN (F[i]).2.1 else if v2 = 2 then lN (F[i]).2.2 else if v2 = 3 then z_corb (c_A F) (c_B F) F.length i else -1) → z_frv (l_front L) (nI i) v2 r := fun r h => fin r (Or.inr (Or.inr ⟨i, hi, rfl, h⟩))
        unfold wX6_front_42
        rw [nI_clamp (by omega), s1, s2, s3, nI_l hs.1, nI_l hs.2.1]
        refine ⟨fun z => absurd z (by decide), fun _ => ⟨fun e0 => ⟨vp_in_nI (by omega) (by omega), hk _ _ _ _ _ _ _ _ _ _ _ _ _ _ _ _ (fin2 _ (by rw [if_pos e0])) hfr' rfl rfl rfl rfl rfl rfl⟩, fun e0 => ⟨fun e1 => ⟨vp_in_nI (by omega) (by omega), hk _ _ _ _ _ _ _ _ _ _ _ _ _ _ _ _ (fin2 _ (by rw [if_neg e0, if_pos e1])) hfr' rfl rfl rfl rfl rfl rfl⟩, fun e1 => ⟨fun e2 => ⟨vp_in_nI (by omega) (by omega), hk _ _ _ _ _ _ _ _ _ _ _ _ _ _ _ _ (fin2 _ (by rw [if_neg e0, if_neg e1, if_pos e2])) hfr' rfl rfl rfl rfl rfl rfl⟩, fun e2 => ⟨fun e3 => ?_, fun e3 => hk _ _ _ _ _ _ _ _ _ _ _ _ _ _ _ _ (fin2 _ (by rw [if_neg e0, if_neg e1, if_neg e2, if_neg e3])) hfr' rfl rfl rfl rfl rfl rfl⟩⟩⟩⟩⟩
        refine s4_isCorner (A := c_A F) (B := c_B F) hrow hinc (fun j hj => ?_) hlen (by omega) hi (fun g => ?_) (fun g => ?_)
        · show fw j = nI (F.getD j (0, 0, 0)).1 ∧ fp j = nI (F.getD j (0, 0, 0)).2.1
          rw [c_get hj]
          exact ⟨(hset j hj).1, (hset j hj).2.1⟩
        · unfold wX6_front_120
          refine ⟨fun z => absurd z (by decide), fun _ => hk _ _ _ _ _ _ _ _ _ _ _ _ _ _ _ _ (fin2 _ ?_) hfr' rfl rfl rfl rfl rfl rfl⟩
          rw [if_neg e0, if_neg e1, if_neg e2, if_pos e3]
          unfold z_corb
          rw [if_pos g]
        · unfold wX6_front_120
          refine ⟨fun _ => hk _ _ _ _ _ _ _ _ _ _ _ _ _ _ _ _ (fin2 _ ?_) hfr' rfl rfl rfl rfl rfl rfl, fun z => absurd rfl z⟩
          rw [if_neg e0, if_neg e1, if_neg e2, if_pos e3]
          unfold z_corb
          rw [if_neg g]
      · unfold wX6_front_42
        refine ⟨fun _ => hk _ _ _ _ _ _ _ _ _ _ _ _ _ _ _ _ (fin _ ?_) hfr' rfl rfl rfl rfl rfl rfl, fun z => absurd rfl z⟩
        by_cases g : v1 = -1
        · exact Or.inl ⟨g, by rw [if_neg (hv g)]⟩
        · exact Or.inr (Or.inl ⟨g, h, rfl⟩)
    refine ⟨fun e => ⟨fun e0 => ?_, fun e0 => has (fun _ => e0)⟩, fun e => has (fun z => absurd z e)⟩
    rw [nI_l (by omega)]
    exact hk _ _ _ _ _ _ _ _ _ _ _ _ _ _ _ _ (fin _ (Or.inl ⟨e, by rw [if_pos e0]⟩)) hfr' rfl rfl rfl rfl rfl rfl
  · refine ⟨fun _ => hk _ _ _ _ _ _ _ _ _ _ _ _ _ _ _ _ (by rw [hF]; rfl) hfr' rfl rfl rfl rfl rfl rfl, fun z => absurd rfl z⟩
theorem s7_front {L : ZL} {t_all : Nat → Int32} {post : Int64 → Int32 → Int32 → Int64 → Int32 → Int64 → Int64 → Int32 → Int32 → Int32 → Int32 → Int64 → Int64 → Int64 → Int32 → (Nat → Int32) → (Nat → Int32) → (Nat → Int64) → (Nat → Int64) → (Nat → Int64) → (Nat → Int64) → (Nat → Int64) → (Nat → Int64) → (Nat → Int64) → (Nat → Int64) → Prop} {t_raised t_many : Int32} {t_room : Int64} {t_breakAt : Int32} {t_breakWeight t_breakProfit : Int64} {t_from t_to t_made t_sets : Int32} {t_bestBits t_bestWeight t_bestProfit : Int64} {t_nexts : Int32} {t_orderOf t_placeOf : Nat → Int32} {t_w t_p t_setBits t_setWeight t_setProfit t_nextProfit t_nextWeight t_nextBits : Nat → Int64} {v1 v2 : Int32} (hl : l_lim L) (hL : y_L L t_all) (hk : ∀ (r : Int64) (t_raised' t_many' : Int32) (t_room' : Int64) (t_breakAt' : Int32) (t_breakWeight' t_breakProfit' : Int64) (t_from' t_to' t_made' t_sets' : Int32) (t_bestBits' t_bestWeight' t_bestProfit' : Int64) (t_nexts' : Int32) (t_orderOf' t_placeOf' : Nat → Int32) (t_w' t_p' t_setBits' t_setWeight' t_setProfit' t_nextProfit' t_nextWeight' t_nextBits' : Nat → Int64), z_frv (l_front L) v1 v2 r → t_raised' = 0 → post r t_raised' t_many' t_room' t_breakAt' t_breakWeight' t_breakProfit' t_from' t_to' t_made' t_sets' t_bestBits' t_bestWeight' t_bestProfit' t_nexts' t_orderOf' t_placeOf' t_w' t_p' t_setBits' t_setWeight' t_setProfit' t_nextProfit' t_nextWeight' t_nextBits') : wX7_front t_all post t_raised t_many t_room t_breakAt t_breakWeight t_breakProfit t_from t_to t_made t_sets t_bestBits t_bestWeight t_bestProfit t_nexts t_orderOf t_placeOf t_w t_p t_setBits t_setWeight t_setProfit t_nextProfit t_nextWeight t_nextBits v1 v2 := by
  obtain ⟨hA, a1, a2, a3, hR, hM2, hM1⟩ := hL.ld hl
  have hbd := z_lim_bd hl 60
  have hcl : l_n L = z_c 60 L.1 := rfl
  have hckl : l_bk L = z_bk (z_w 60 L.2.1 L.2.2.1 L.1) L.2.2.2.1 (z_c 60 L.1) 0 := rfl
  unfold wX7_front
  refine s7_laysFront hA a2 hM2 hM1 (fun F hF => ?_) (fun hF => ?_)
  · intro r m1 m2 m3 m4 m5 m6 m7 m8 m9 m10 m11 m12 m13 m14 m15 m16 m17 m18 m19 m20 m21 m22 m23 er es hok hy
    subst er es
    have hF' : l_front L = some F := hF
    have hl1 : F.length ≤ 1000 := Nat.le_trans hok.2.2 hM1
    obtain ⟨hrow, hinc⟩ := z_okF_row hbd hok
    have fin : ∀ (r : Int64), ((v1 = -1 ∧ r = (if v2 = 0 then lN F.length else -1)) ∨ (¬ v1 = -1 ∧ ¬ (∃ i, v1 = nI i ∧ i < F.length) ∧ r = -1) ∨ ∃ i, ∃ h : i < F.length, v1 = nI i ∧ r = (if v2 = 0 then lN (F[i]).1 else if v2 = 1 then lN (F[i]).2.1 else if v2 = 2 then lN (F[i]).2.2 else if v2 = 3 then z_corb (c_A F) (c_B F) F.length i else -1)) → z_frv (l_front L) v1 v2 r := fun r h => by rw [hF']; exact h
    unfold wX7_front_9
    refine ⟨fun z => absurd z (by decide), fun _ => ⟨fun e => ⟨fun e0 => ?_, fun e0 => ?_⟩, fun e => ?_⟩⟩
    · rw [nI_l (by omega)]
      exact hk _ _ _ _ _ _ _ _ _ _ _ _ _ _ _ _ _ _ _ _ _ _ _ _ _ (fin _ (Or.inl ⟨e, by rw [if_pos e0]⟩)) rfl
    · exact hk _ _ _ _ _ _ _ _ _ _ _ _ _ _ _ _ _ _ _ _ _ _ _ _ _ (fin _ (Or.inl ⟨e, by rw [if_neg e0]⟩)) rfl
    · refine s7_inN (by omega) (fun i ei hi => ?_) (fun h => ?_)
      · subst ei
        obtain ⟨s1, s2, s3⟩ := hy i hi
        have fin2 : ∀ (r : Int64), r = (if v2 = 0 then lN (F[i]).1 else if v2 = 1 then lN (F[i]).2.1 else if v2 = 2 then lN (F[i]).2.2 else if v2 = 3 then z_corb (c_A F) (c_B F) F.length i else -1) → z_frv (l_front L) (nI i) v2 r := fun r h => fin r (Or.inr (Or.inr ⟨i, hi, rfl, h⟩))
        unfold wX7_front_50
        refine ⟨fun z => absurd z (by decide), fun _ => ?_⟩
        refine s7_inI (a := 0) (b := 3) (by omega) (by omega) (fun m em _ hm => ?_) (fun h => ?_)
        · unfold wX7_front_62
          rw [nI_clamp (by omega), s1, s2, s3]
          refine ⟨fun z => absurd z (by decide), fun _ => ⟨fun e0 => ⟨vp_in_nI (by omega) (by omega), hk _ _ _ _ _ _ _ _ _ _ _ _ _ _ _ _ _ _ _ _ _ _ _ _ _ (fin2 _ (by rw [if_pos e0])) rfl⟩, fun e0 => ⟨fun e1 => ⟨vp_in_nI (by omega) (by omega), hk _ _ _ _ _ _ _ _ _ _ _ _ _ _ _ _ _ _ _ _ _ _ _ _ _ (fin2 _ (by rw [if_neg e0, if_pos e1])) rfl⟩, fun e1 => ⟨fun e2 => ⟨vp_in_nI (by omega) (by omega), hk _ _ _ _ _ _ _ _ _ _ _ _ _ _ _ _ _ _ _ _ _ _ _ _ _ (fin2 _ (by rw [if_neg e0, if_neg e1, if_pos e2])) rfl⟩, fun e2 => ?_⟩⟩⟩⟩
          have e3 : v2 = 3 := by
            have e9 : m = 0 ∨ m = 1 ∨ m = 2 ∨ m = 3 := by omega
            rcases e9 with rfl | rfl | rfl | rfl
            · exact absurd em e0
            · exact absurd em e1
            · exact absurd em e2
            · exact em
          refine s7_isCorner (A := c_A F) (B := c_B F) hrow (fun j hj => ?_) hl1 hi (fun g => ?_) (fun g => ?_)
          · show m19 j = lN (F.getD j (0, 0, 0)).1 ∧ m20 j = lN (F.getD j (0, 0, 0)).2.1
            rw [c_get hj]
            exact ⟨(hy j hj).1, (hy j hj).2.1⟩
          · unfold wX7_front_115
            refine ⟨fun z => absurd z (by decide), fun _ => hk _ _ _ _ _ _ _ _ _ _ _ _ _ _ _ _ _ _ _ _ _ _ _ _ _ (fin2 _ ?_) rfl⟩
            rw [if_neg e0, if_neg e1, if_neg e2, if_pos e3]
            unfold z_corb
            rw [if_pos g]
          · unfold wX7_front_115
            refine ⟨fun _ => hk _ _ _ _ _ _ _ _ _ _ _ _ _ _ _ _ _ _ _ _ _ _ _ _ _ (fin2 _ ?_) rfl, fun z => absurd rfl z⟩
            rw [if_neg e0, if_neg e1, if_neg e2, if_pos e3]
            unfold z_corb
            rw [if_neg g]
        · have q0 : ¬ v2 = 0 := fun e => h ⟨0, e, by omega, by omega⟩
          have q1 : ¬ v2 = 1 := fun e => h ⟨1, e, by omega, by omega⟩
          have q2 : ¬ v2 = 2 := fun e => h ⟨2, e, by omega, by omega⟩
          have q3 : ¬ v2 = 3 := fun e => h ⟨3, e, by omega, by omega⟩
          unfold wX7_front_62
          exact ⟨fun _ => hk _ _ _ _ _ _ _ _ _ _ _ _ _ _ _ _ _ _ _ _ _ _ _ _ _ (fin2 _ (by rw [if_neg q0, if_neg q1, if_neg q2, if_neg q3])) rfl, fun z => absurd rfl z⟩
      · unfold wX7_front_50
        exact ⟨fun _ => hk _ _ _ _ _ _ _ _ _ _ _ _ _ _ _ _ _ _ _ _ _ _ _ _ _ (fin _ (Or.inr (Or.inl ⟨e, h, rfl⟩))) rfl, fun z => absurd rfl z⟩
  · intro r m1 m2 m3 m4 m5 m6 m7 m8 m9 m10 m11 m12 m13 m14 m15 m16 m17 m18 m19 m20 m21 m22 m23 er
    subst er
    have hF' : l_front L = none := hF
    unfold wX7_front_9
    exact ⟨fun _ => hk _ _ _ _ _ _ _ _ _ _ _ _ _ _ _ _ _ _ _ _ _ _ _ _ _ (by rw [hF']; rfl) rfl, fun z => absurd rfl z⟩
