/-! the reference: the core as it is, to the end, the front -/
def y_load (n : Nat) (W P : Nat → Nat) (R M K : Nat) (a : Nat → Int32) : Prop := y_all n W P a ∧ a 1 = nI R ∧ a 2 = nI M ∧ a 3 = nI K ∧ R < 2 ^ 31 ∧ 2 ≤ M ∧ M ≤ 1000
/-- the core of such a load, so many steps made -/
def z_at (e n : Nat) (W P : Nat → Nat) (R M K : Nat) (d : ZC) : Prop := z_run (z_c e n) (z_w e W P n) (z_p e W P n) R M K (z_begin (z_c e n) (z_w e W P n) (z_p e W P n) R) = some d
theorem z_at_ok {e n : Nat} {W P : Nat → Nat} {R M K : Nat} {d : ZC} (hM : 2 ≤ M) (h : z_at e n W P R M K d) : z_ok (z_c e n) (z_w e W P n) (z_p e W P n) R M d ∧ d.2.2.1 = K := by
  obtain ⟨h1, h2⟩ := z_run_ok (z_begin_ok (by omega)) h
  exact ⟨h1, by rw [h2]; simp [z_begin]⟩
theorem z_none {n : Nat} (hn : n ≤ 60) : ∀ i, i < n → (nI i = (-1 : Int32) ↔ i = 60) := by
  intro i hi
  constructor
  · intro h
    have h2 : (nI i).toInt = -1 := by rw [h]; rfl
    rw [nI_toInt (by omega)] at h2
    omega
  · intro h; omega
theorem s7_lays {n : Nat} {W P : Nat → Nat} {R M K : Nat} {d : ZC} {t_all : Nat → Int32} (hA : y_load n W P R M K t_all) (hd : z_at 60 n W P R M K d) {post : Int32 → Int64 → Int32 → Int64 → Int64 → Int32 → Int32 → Int32 → Int32 → Int64 → Int64 → Int64 → Int32 → (Nat → Int32) → (Nat → Int32) → (Nat → Int64) → (Nat → Int64) → (Nat → Int64) → (Nat → Int64) → (Nat → Int64) → (Nat → Int64) → (Nat → Int64) → (Nat → Int64) → Prop} {t_many : Int32} {t_room : Int64} {t_breakAt : Int32} {t_breakWeight t_breakProfit : Int64} {t_from t_to t_made t_sets : Int32} {t_bestBits t_bestWeight t_bestProfit : Int64} {t_nexts : Int32} {t_orderOf t_placeOf : Nat → Int32} {t_w t_p t_setBits t_setWeight t_setProfit t_nextProfit t_nextWeight t_nextBits : Nat → Int64}
    (hk : ∀ (nx : Int32) (orderOf placeOf : Nat → Int32) (tw tp sb sw sp np nw nb : Nat → Int64), y_arr 60 W P n orderOf placeOf tw tp → y_set d.2.2.2.1 sw sp sb →
      post (nI (z_c 60 n)) (lN R) (nI (z_bk (z_w 60 W P n) R (z_c 60 n) 0)) (lN (z_sm (z_w 60 W P n) (z_bk (z_w 60 W P n) R (z_c 60 n) 0))) (lN (z_sm (z_p 60 W P n) (z_bk (z_w 60 W P n) R (z_c 60 n) 0)))
        (nI d.1) (y_to d.2.1) (nI d.2.2.1) (nI d.2.2.2.1.length) (lN d.2.2.2.2.2.2) (lN d.2.2.2.2.1) (lN d.2.2.2.2.2.1) nx orderOf placeOf tw tp sb sw sp np nw nb) : wX7_lays t_all post t_many t_room t_breakAt t_breakWeight t_breakProfit t_from t_to t_made t_sets t_bestBits t_bestWeight t_bestProfit t_nexts t_orderOf t_placeOf t_w t_p t_setBits t_setWeight t_setProfit t_nextProfit t_nextWeight t_nextBits := by
  obtain ⟨hA, a1, a2, a3, hR, hM2, hM1⟩ := hA
  have hb := hA.bd 60
  have hn := hA.2.1
  unfold wX7_lays
  rw [show ((1 : Int32)).toNatClampNeg = 1 from rfl, a1, nI_l hR]
  refine s7_begins hA hR (z_none hn) (fun orderOf placeOf tw tp sb sw sp harr hy => ?_)
  unfold wX7_lays_12
  have main : ∀ (k : Nat) (c : ZC) (nx : Int32) (sb sw sp np nw nb : Nat → Int64), z_ok (z_c 60 n) (z_w 60 W P n) (z_p 60 W P n) R M c → c.2.2.1 + k = K → z_run (z_c 60 n) (z_w 60 W P n) (z_p 60 W P n) R M k c = some d → y_set c.2.2.2.1 sw sp sb →
      wX7_lays_14 t_all post (k + 1) (nI (z_c 60 n)) (lN R) (nI (z_bk (z_w 60 W P n) R (z_c 60 n) 0)) (lN (z_sm (z_w 60 W P n) (z_bk (z_w 60 W P n) R (z_c 60 n) 0))) (lN (z_sm (z_p 60 W P n) (z_bk (z_w 60 W P n) R (z_c 60 n) 0)))
        (nI c.1) (y_to c.2.1) (nI c.2.2.1) (nI c.2.2.2.1.length) (lN c.2.2.2.2.2.2) (lN c.2.2.2.2.1) (lN c.2.2.2.2.2.1) nx orderOf placeOf tw tp sb sw sp np nw nb 1 := by
    have hcn := z_c_le (e := 60) (n := n)
    intro k
    induction k with
    | zero =>
      intro c nx sb sw sp np nw nb hok hK hrun hy
      have hlim := hok.1
      rw [wX7_lays_14]
      unfold wX7_lays_14_b
      refine ⟨fun z => absurd z (by decide), fun _ => ?_⟩
      simp (disch := omega) only [q32, q64, nI_add, nI_ltI, nI_leI, nI_eq, nI_clamp, vp_in_nI, lN_add, lN_mul, pk_lLT, pk_lLE, pk_lEQ, nI_l, lN_i, nI_sub, nI_an, lN_sub, lN_an, Nat.add_sub_cancel, and_true, true_and, a3]
      refine ⟨fun _ => ?_, fun h => by omega⟩
      rw [z_run] at hrun
      cases hrun
      exact hk _ _ _ _ _ _ _ _ _ _ _ harr hy
    | succ k ih =>
      intro c nx sb sw sp np nw nb hok hK hrun hy
      have hlim := hok.1
      obtain ⟨hokd, hmd⟩ := z_run_ok hok hrun
      have hlimd := hokd.1
      rw [z_run] at hrun
      split at hrun
      · cases hrun
      · next hp =>
        rw [wX7_lays_14]
        unfold wX7_lays_14_b
        refine ⟨fun z => absurd z (by decide), fun _ => ?_⟩
        simp (disch := omega) only [q32, q64, nI_add, nI_ltI, nI_leI, nI_eq, nI_clamp, vp_in_nI, lN_add, lN_mul, pk_lLT, pk_lLE, pk_lEQ, nI_l, lN_i, nI_sub, nI_an, lN_sub, lN_an, Nat.add_sub_cancel, and_true, true_and, a3]
        refine ⟨fun h => by omega, fun _ => ?_⟩
        refine s7_goes hb harr.2.2 hok hp a2 hM1 hR hy (fun h0 => ?_) (fun c2 h1 nx sw sb sp np nw nb hy2 => ?_)
        · rw [h0] at hrun; cases hrun
        · rw [h1] at hrun
          unfold wX7_lays_35
          have hmade : c2.2.2.1 = c.2.2.1 + 1 := by
            unfold z_step at h1
            split at h1
            · cases h1
            · cases h1; unfold z_to; split <;> rfl
          exact ih c2 nx sb sw sp np nw nb (z_step_ok hok hp h1) (by omega) hrun hy2
  exact ⟨K + 1, main K _ _ _ _ _ _ _ _ (z_begin_ok (by omega)) (by simp [z_begin]) hd hy⟩
theorem s7_solves {n : Nat} {w p : Nat → Nat} {R M : Nat} {t_w t_p : Nat → Int64} {t_all : Nat → Int32} (hb : y_bd n w p) (hwp : y_wp n w p t_w t_p) (hM : t_all 2 = nI M) (hM1 : M ≤ 1000) (hR : R < 2 ^ 31) {c : ZC} (hok : z_ok n w p R M c) {t_nexts : Int32} {t_setWeight t_setBits t_setProfit t_nextProfit t_nextWeight t_nextBits : Nat → Int64} (hset : y_set c.2.2.2.1 t_setWeight t_setProfit t_setBits)
    {post : Int32 → Int32 → Int32 → Int32 → Int32 → Int64 → Int64 → Int64 → Int32 → (Nat → Int64) → (Nat → Int64) → (Nat → Int64) → (Nat → Int64) → (Nat → Int64) → (Nat → Int64) → Prop}
    (hk : ∀ (d : ZC) (r nx : Int32) (sw sb sp np nw nb : Nat → Int64), d = z_end n w p R M 60 c → z_ok n w p R M d → (z_proved n d = true ∧ r = 1 ∨ ¬ z_proved n d = true ∧ r = 0) → y_set d.2.2.2.1 sw sp sb → post r (nI d.1) (y_to d.2.1) (nI d.2.2.1) (nI d.2.2.2.1.length) (lN d.2.2.2.2.2.2) (lN d.2.2.2.2.1) (lN d.2.2.2.2.2.1) nx sw sb sp np nw nb) :
    wX7_solves (nI n) (lN R) t_w t_p t_all post (nI c.1) (y_to c.2.1) (nI c.2.2.1) (nI c.2.2.2.1.length) (lN c.2.2.2.2.2.2) (lN c.2.2.2.2.1) (lN c.2.2.2.2.2.1) t_nexts t_setWeight t_setBits t_setProfit t_nextProfit t_nextWeight t_nextBits := by
  have hn := hb.1
  have main : ∀ (k : Nat) (c2 : ZC) (nx : Int32) (sb sw sp np nw nb : Nat → Int64), z_ok n w p R M c2 → n ≤ c2.2.2.1 + k → z_end n w p R M k c2 = z_end n w p R M 60 c → y_set c2.2.2.2.1 sw sp sb →
      wX7_solves_0 (nI n) (lN R) t_w t_p t_all post (k + 1) (nI c2.1) (y_to c2.2.1) (nI c2.2.2.1) (nI c2.2.2.2.1.length) (lN c2.2.2.2.2.2.2) (lN c2.2.2.2.2.1) (lN c2.2.2.2.2.2.1) nx sw sb sp np nw nb := by
    intro k
    induction k with
    | zero =>
      intro c2 nx sb sw sp np nw nb hok2 hK hF hy
      obtain ⟨l1, l2, l3⟩ := hok2.1
      have hp : z_proved n c2 = true := by unfold z_proved; rw [decide_eq_true_iff]; exact Or.inr ⟨by omega, by omega⟩
      rw [wX7_solves_0]
      unfold wX7_solves_0_b
      refine s7_isProved hn (by omega) (by omega) (Nat.le_trans hok2.2.2.2.1 hM1) (fun _ => ?_) (fun h => absurd (of_decide_eq_true hp) h)
      unfold wX7_solves_4
      refine ⟨fun z => absurd z (by decide), fun _ => hk c2 1 nx sw sb sp np nw nb hF hok2 (Or.inl ⟨hp, rfl⟩) hy⟩
    | succ k ih =>
      intro c2 nx sb sw sp np nw nb hok2 hK hF hy
      obtain ⟨l1, l2, l3⟩ := hok2.1
      rw [z_end] at hF
      rw [wX7_solves_0]
      unfold wX7_solves_0_b
      refine s7_isProved hn (by omega) (by omega) (Nat.le_trans hok2.2.2.2.1 hM1) (fun h => ?_) (fun h => ?_)
      · have hp : z_proved n c2 = true := by unfold z_proved; rw [decide_eq_true_iff]; exact h
        rw [if_pos hp] at hF
        unfold wX7_solves_4
        refine ⟨fun z => absurd z (by decide), fun _ => hk c2 1 nx sw sb sp np nw nb hF hok2 (Or.inl ⟨hp, rfl⟩) hy⟩
      · have hp : ¬ z_proved n c2 = true := by unfold z_proved; rw [decide_eq_true_iff]; exact h
        rw [if_neg hp] at hF
        unfold wX7_solves_4
        refine ⟨fun _ => ?_, fun z => absurd rfl z⟩
        refine s7_goes hb hwp hok2 hp hM hM1 hR hy (fun h0 nx np nw nb => ?_) (fun c3 h1 nx sw sb sp np nw nb hy2 => ?_)
        · rw [h0] at hF
          unfold wX7_solves_11
          refine ⟨fun _ => hk c2 0 nx _ _ _ np nw nb hF hok2 (Or.inr ⟨hp, rfl⟩) hy, fun z => absurd rfl z⟩
        · rw [h1] at hF
          unfold wX7_solves_11
          refine ⟨fun z => absurd z (by decide), fun _ => ?_⟩
          have hmade : c3.2.2.1 = c2.2.2.1 + 1 := by
            unfold z_step at h1
            split at h1
            · cases h1
            · cases h1; unfold z_to; split <;> rfl
          exact ih c3 nx sb sw sp np nw nb (z_step_ok hok2 hp h1) (by omega) hF hy2
  unfold wX7_solves
  exact ⟨61, main 60 c _ _ _ _ _ _ _ hok (by omega) rfl hset⟩
/-- what a load comes to: proved or not, the best profit -/
def z_opt (e n : Nat) (W P : Nat → Nat) (R M : Nat) : ZC := z_end (z_c e n) (z_w e W P n) (z_p e W P n) R M 60 (z_begin (z_c e n) (z_w e W P n) (z_p e W P n) R)
theorem s7_optimum {n e : Nat} {W P : Nat → Nat} {R M : Nat} {t_all : Nat → Int32} (hA : y_all n W P t_all) (hM : t_all 2 = nI M) (hM2 : 2 ≤ M) (hM1 : M ≤ 1000) (hR : R < 2 ^ 31) {v1 : Int32} (hv : ∀ i, i < n → (nI i = v1 ↔ i = e)) {post : Int64 → Int32 → Int64 → Int32 → Int64 → Int64 → Int32 → Int32 → Int32 → Int32 → Int64 → Int64 → Int64 → Int32 → (Nat → Int32) → (Nat → Int32) → (Nat → Int64) → (Nat → Int64) → (Nat → Int64) → (Nat → Int64) → (Nat → Int64) → (Nat → Int64) → (Nat → Int64) → (Nat → Int64) → Prop} {t_many : Int32} {t_room : Int64} {t_breakAt : Int32} {t_breakWeight t_breakProfit : Int64} {t_from t_to t_made t_sets : Int32} {t_bestBits t_bestWeight t_bestProfit : Int64} {t_nexts : Int32} {t_orderOf t_placeOf : Nat → Int32} {t_w t_p t_setBits t_setWeight t_setProfit t_nextProfit t_nextWeight t_nextBits : Nat → Int64}
    (h1 : z_proved (z_c e n) (z_opt e n W P R M) = true → ∀ (r : Int64) (t_many' : Int32) (t_room' : Int64) (t_breakAt' : Int32) (t_breakWeight' t_breakProfit' : Int64) (t_from' t_to' t_made' t_sets' : Int32) (t_bestBits' t_bestWeight' t_bestProfit' : Int64) (t_nexts' : Int32) (t_orderOf' t_placeOf' : Nat → Int32) (t_w' t_p' t_setBits' t_setWeight' t_setProfit' t_nextProfit' t_nextWeight' t_nextBits' : Nat → Int64), r = lN (z_opt e n W P R M).2.2.2.2.2.1 → post r t_many' t_room' t_breakAt' t_breakWeight' t_breakProfit' t_from' t_to' t_made' t_sets' t_bestBits' t_bestWeight' t_bestProfit' t_nexts' t_orderOf' t_placeOf' t_w' t_p' t_setBits' t_setWeight' t_setProfit' t_nextProfit' t_nextWeight' t_nextBits')
    (h0 : ¬ z_proved (z_c e n) (z_opt e n W P R M) = true → ∀ (r : Int64) (t_many' : Int32) (t_room' : Int64) (t_breakAt' : Int32) (t_breakWeight' t_breakProfit' : Int64) (t_from' t_to' t_made' t_sets' : Int32) (t_bestBits' t_bestWeight' t_bestProfit' : Int64) (t_nexts' : Int32) (t_orderOf' t_placeOf' : Nat → Int32) (t_w' t_p' t_setBits' t_setWeight' t_setProfit' t_nextProfit' t_nextWeight' t_nextBits' : Nat → Int64), r = -1 → post r t_many' t_room' t_breakAt' t_breakWeight' t_breakProfit' t_from' t_to' t_made' t_sets' t_bestBits' t_bestWeight' t_bestProfit' t_nexts' t_orderOf' t_placeOf' t_w' t_p' t_setBits' t_setWeight' t_setProfit' t_nextProfit' t_nextWeight' t_nextBits') :
    wX7_optimum t_all post t_many t_room t_breakAt t_breakWeight t_breakProfit t_from t_to t_made t_sets t_bestBits t_bestWeight t_bestProfit t_nexts t_orderOf t_placeOf t_w t_p t_setBits t_setWeight t_setProfit t_nextProfit t_nextWeight t_nextBits v1 (lN R) := by
  have hb := hA.bd e
  unfold wX7_optimum
  refine s7_begins hA hR hv (fun orderOf placeOf tw tp sb sw sp harr hy => ?_)
  unfold wX7_optimum_6
  refine s7_solves (c := z_begin (z_c e n) (z_w e W P n) (z_p e W P n) R) hb harr.2.2 hM hM1 hR (z_begin_ok (by omega)) hy (fun d r nx sw sb sp np nw nb hd hok hr hy => ?_)
  have hd' : d = z_opt e n W P R M := hd
  subst hd'
  unfold wX7_optimum_10
  rcases hr with ⟨hr, rfl⟩ | ⟨hr, rfl⟩
  · exact ⟨fun z => absurd z (by decide), fun _ => h1 hr _ _ _ _ _ _ _ _ _ _ _ _ _ _ _ _ _ _ _ _ _ _ _ _ rfl⟩
  · exact ⟨fun _ => h0 hr _ _ _ _ _ _ _ _ _ _ _ _ _ _ _ _ _ _ _ _ _ _ _ _ rfl, fun z => absurd rfl z⟩
def z_front (w p : Nat → Nat) (M : Nat) : Nat → Nat → List ZT → Option (List ZT)
  | 0, _, L => some L
  | r + 1, k, L => if M < (z_next (z_shR w p k) L).length then none else z_front w p M r (k + 1) (z_next (z_shR w p k) L)
def z_okF (w p : Nat → Nat) (M k : Nat) (L : List ZT) : Prop := z_inc L ∧ (∀ s ∈ L, z_in w p 0 k s) ∧ L.length ≤ M
theorem z_okF_0 {w p : Nat → Nat} {M : Nat} (hM : 1 ≤ M) : z_okF w p M 0 [(0, 0, 0)] :=
  ⟨List.pairwise_singleton _ _, fun s hs => by rw [List.mem_singleton.mp hs]; exact ⟨Nat.le_refl _, Nat.le_refl _, Nat.le_refl _, Nat.le_refl _, by simp, by simp⟩, hM⟩
theorem z_okF_s {w p : Nat → Nat} {M k : Nat} {L : List ZT} (h : z_okF w p M k L) : z_inc (z_next (z_shR w p k) L) ∧ (∀ s ∈ z_next (z_shR w p k) L, z_in w p 0 (k + 1) s) ∧ (z_next (z_shR w p k) L).length ≤ 2 * L.length ∧ z_next (z_shR w p k) L = (z_mm L (L.map (z_shR w p k)) []).reverse := by
  obtain ⟨h1, h2, h3⟩ := h
  obtain ⟨a1, a2, a3, a4⟩ := z_next_ok (sh := z_shR w p k) h1 (z_inc_R h1)
  refine ⟨a1, fun s hs => ?_, a3, a4⟩
  rcases a2 s hs with h | ⟨y, hy, rfl⟩
  · exact z_in_up (h2 s h) (Nat.le_succ _)
  · exact z_in_R (h2 y hy) (Nat.zero_le _)
theorem s7_laysFront {n : Nat} {W P : Nat → Nat} {M : Nat} {t_all : Nat → Int32} (hA : y_all n W P t_all) (hM : t_all 2 = nI M) (hM2 : 2 ≤ M) (hM1 : M ≤ 1000) {post : Int32 → Int32 → Int64 → Int32 → Int64 → Int64 → Int32 → Int32 → Int32 → Int32 → Int64 → Int64 → Int64 → Int32 → (Nat → Int32) → (Nat → Int32) → (Nat → Int64) → (Nat → Int64) → (Nat → Int64) → (Nat → Int64) → (Nat → Int64) → (Nat → Int64) → (Nat → Int64) → (Nat → Int64) → Prop} {t_many : Int32} {t_room : Int64} {t_breakAt : Int32} {t_breakWeight t_breakProfit : Int64} {t_from t_to t_made t_sets : Int32} {t_bestBits t_bestWeight t_bestProfit : Int64} {t_nexts : Int32} {t_orderOf t_placeOf : Nat → Int32} {t_w t_p t_setBits t_setWeight t_setProfit t_nextProfit t_nextWeight t_nextBits : Nat → Int64}
    (h1 : ∀ L, z_front (z_w 60 W P n) (z_p 60 W P n) M (z_c 60 n) 0 [(0, 0, 0)] = some L → ∀ (r t_many' : Int32) (t_room' : Int64) (t_breakAt' : Int32) (t_breakWeight' t_breakProfit' : Int64) (t_from' t_to' t_made' t_sets' : Int32) (t_bestBits' t_bestWeight' t_bestProfit' : Int64) (t_nexts' : Int32) (t_orderOf' t_placeOf' : Nat → Int32) (t_w' t_p' t_setBits' t_setWeight' t_setProfit' t_nextProfit' t_nextWeight' t_nextBits' : Nat → Int64), r = 1 → t_sets' = nI L.length → z_okF (z_w 60 W P n) (z_p 60 W P n) M (z_c 60 n) L → y_set L t_setWeight' t_setProfit' t_setBits' → post r t_many' t_room' t_breakAt' t_breakWeight' t_breakProfit' t_from' t_to' t_made' t_sets' t_bestBits' t_bestWeight' t_bestProfit' t_nexts' t_orderOf' t_placeOf' t_w' t_p' t_setBits' t_setWeight' t_setProfit' t_nextProfit' t_nextWeight' t_nextBits')
    (h0 : z_front (z_w 60 W P n) (z_p 60 W P n) M (z_c 60 n) 0 [(0, 0, 0)] = none → ∀ (r t_many' : Int32) (t_room' : Int64) (t_breakAt' : Int32) (t_breakWeight' t_breakProfit' : Int64) (t_from' t_to' t_made' t_sets' : Int32) (t_bestBits' t_bestWeight' t_bestProfit' : Int64) (t_nexts' : Int32) (t_orderOf' t_placeOf' : Nat → Int32) (t_w' t_p' t_setBits' t_setWeight' t_setProfit' t_nextProfit' t_nextWeight' t_nextBits' : Nat → Int64), r = 0 → post r t_many' t_room' t_breakAt' t_breakWeight' t_breakProfit' t_from' t_to' t_made' t_sets' t_bestBits' t_bestWeight' t_bestProfit' t_nexts' t_orderOf' t_placeOf' t_w' t_p' t_setBits' t_setWeight' t_setProfit' t_nextProfit' t_nextWeight' t_nextBits') : wX7_laysFront t_all post t_many t_room t_breakAt t_breakWeight t_breakProfit t_from t_to t_made t_sets t_bestBits t_bestWeight t_bestProfit t_nexts t_orderOf t_placeOf t_w t_p t_setBits t_setWeight t_setProfit t_nextProfit t_nextWeight t_nextBits := by
  have hb := hA.bd 60
  have hn := hA.2.1
  have hcn := z_c_le (e := 60) (n := n)
  unfold wX7_laysFront
  refine s7_begins (R := 0) hA (by omega) (z_none hn) (fun orderOf placeOf tw tp sb sw sp harr hy => ?_)
  unfold wX7_laysFront_6
  generalize nI (z_bk (z_w 60 W P n) 0 (z_c 60 n) 0) = q1
  generalize lN (z_sm (z_w 60 W P n) (z_bk (z_w 60 W P n) 0 (z_c 60 n) 0)) = q2
  generalize lN (z_sm (z_p 60 W P n) (z_bk (z_w 60 W P n) 0 (z_c 60 n) 0)) = q3
  generalize nI (z_begin (z_c 60 n) (z_w 60 W P n) (z_p 60 W P n) 0).1 = q4
  generalize y_to (z_begin (z_c 60 n) (z_w 60 W P n) (z_p 60 W P n) 0).2.1 = q5
  generalize lN (z_begin (z_c 60 n) (z_w 60 W P n) (z_p 60 W P n) 0).2.2.2.2.2.2 = q6
  generalize lN (z_begin (z_c 60 n) (z_w 60 W P n) (z_p 60 W P n) 0).2.2.2.2.1 = q7
  generalize lN (z_begin (z_c 60 n) (z_w 60 W P n) (z_p 60 W P n) 0).2.2.2.2.2.1 = q8
  have main : ∀ (r k : Nat) (L : List ZT) (nx : Int32) (sb sw sp np nw nb : Nat → Int64), k + r = z_c 60 n → z_okF (z_w 60 W P n) (z_p 60 W P n) M k L → y_set L sw sp sb → z_front (z_w 60 W P n) (z_p 60 W P n) M r k L = z_front (z_w 60 W P n) (z_p 60 W P n) M (z_c 60 n) 0 [(0, 0, 0)] →
      wX7_laysFront_34 t_all post (r + 1) (nI (z_c 60 n)) (lN 0) q1 q2 q3 q4 q5 (nI 0) (nI L.length) q6 q7 q8 nx orderOf placeOf tw tp sb sw sp np nw nb (nI k) := by
    intro r
    induction r with
    | zero =>
      intro k L nx sb sw sp np nw nb hkr hok hy hF
      rw [wX7_laysFront_34]
      unfold wX7_laysFront_34_b
      simp (disch := omega) only [q32, q64, nI_add, nI_ltI, nI_leI, nI_eq, nI_clamp, vp_in_nI, lN_add, lN_mul, pk_lLT, pk_lLE, pk_lEQ, nI_l, lN_i, nI_sub, nI_an, lN_sub, lN_an, Nat.add_sub_cancel, and_true, true_and]
      refine ⟨fun _ => ?_, fun h => by omega⟩
      rw [z_front] at hF
      have hk0 : k = z_c 60 n := by omega
      exact h1 L hF.symm _ _ _ _ _ _ _ _ _ _ _ _ _ _ _ _ _ _ _ _ _ _ _ _ rfl rfl (hk0 ▸ hok) hy
    | succ r ih =>
      intro k L nx sb sw sp np nw nb hkr hok hy hF
      have hkn : k < z_c 60 n := by omega
      obtain ⟨w1, p1⟩ := harr.2.2 k hkn
      have l1 := hb.lt hkn
      obtain ⟨a1, a2, a3, a4⟩ := z_okF_s hok
      rw [z_front] at hF
      rw [wX7_laysFront_34]
      unfold wX7_laysFront_34_b
      have hsh : ((1 : Int64) <<< ((nI k).toInt64 &&& 63)) = lN (2 ^ k) := by
        rw [show (1 : Int64) = lN 1 from rfl, wb_shl 1 (by omega), Nat.one_mul]
      rw [hsh]
      simp (disch := omega) only [q32, q64, nI_add, nI_ltI, nI_leI, nI_eq, nI_clamp, vp_in_nI, lN_add, lN_mul, pk_lLT, pk_lLE, pk_lEQ, nI_l, lN_i, nI_sub, nI_an, lN_sub, lN_an, Nat.add_sub_cancel, and_true, true_and, w1, p1]
      refine ⟨fun h => by omega, fun _ => ?_⟩
      have hpw : 2 ^ k ≤ 2 ^ 59 := z_pow_le (by omega)
      have hlen := hok.2.2
      have hsL : ∀ s ∈ L, s.1 < 2 ^ 31 ∧ s.2.1 < 2 ^ 31 ∧ s.2.2 < 2 ^ 60 := fun s hs => z_in_lt hb (by omega) (hok.2.1 s hs)
      refine s7_doubles (sh := z_shR (z_w 60 W P n) (z_p 60 W P n) k) hy (fun s hs => ?_) (by omega) (fun s hs => ?_) (fun np nw nb hy2 => ?_)
      · have := hsL s hs
        exact ⟨z_bnd_of this, ⟨show s.1 + z_w 60 W P n k < 2 ^ 62 by omega, show s.2.1 + z_p 60 W P n k < 2 ^ 62 by omega, show s.2.2 + 2 ^ k < 2 ^ 62 by omega⟩⟩
      · have h9 := (hok.2.1 s hs).2.2.2.2.1
        refine ⟨lN_add _ _, lN_add _ _, ?_⟩
        rw [z_lxor _ _ (by omega) (by omega), z_nxor_lt h9]
        rfl
      · have hl2 : (z_mm L (L.map (z_shR (z_w 60 W P n) (z_p 60 W P n) k)) []).length = (z_next (z_shR (z_w 60 W P n) (z_p 60 W P n) k) L).length := by rw [a4, List.length_reverse]
        rw [hl2]
        rw [← a4] at hy2
        unfold wX7_laysFront_61
        simp (disch := omega) only [q32, q64, nI_add, nI_ltI, nI_leI, nI_eq, nI_clamp, vp_in_nI, lN_add, lN_mul, pk_lLT, pk_lLE, pk_lEQ, nI_l, lN_i, nI_sub, nI_an, lN_sub, lN_an, Nat.add_sub_cancel, and_true, true_and, hM]
        refine ⟨fun hle => ?_, fun hgt => ?_⟩
        · rw [if_neg (by omega)] at hF
          refine s7_takesNexts hy2 (by omega) (fun sb sw sp hy3 => ?_)
          unfold wX7_laysFront_80
          simp (disch := omega) only [q32, q64, nI_add, nI_ltI, nI_leI, nI_eq, nI_clamp, vp_in_nI, lN_add, lN_mul, pk_lLT, pk_lLE, pk_lEQ, nI_l, lN_i, nI_sub, nI_an, lN_sub, lN_an, Nat.add_sub_cancel, and_true, true_and]
          exact ih (k + 1) _ _ _ _ _ _ _ _ (by omega) ⟨a1, a2, by omega⟩ hy3 hF
        · rw [if_pos (by omega)] at hF
          exact h0 hF.symm _ _ _ _ _ _ _ _ _ _ _ _ _ _ _ _ _ _ _ _ _ _ _ _ rfl
  refine ⟨z_c 60 n + 1, main (z_c 60 n) 0 [(0, 0, 0)] _ _ _ _ _ _ _ (by omega) (z_okF_0 (by omega)) (fun i hi => ?_) rfl⟩
  have hi0 : i = 0 := by
    have : i < 1 := hi
    omega
  subst hi0
  rw [show ((0 : Int32)).toNatClampNeg = 0 from rfl, pk_uLs, pk_uLs, pk_uLs]
  exact ⟨rfl, rfl, rfl⟩
