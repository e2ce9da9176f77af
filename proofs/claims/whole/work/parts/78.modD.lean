/-! the reference: a step, the begin, all steps -/
theorem z_in_lt {n : Nat} {w p : Nat → Nat} {f t : Nat} {s : ZT} (hb : y_bd n w p) (ht : t ≤ n) (h : z_in w p f t s) : s.1 < 2 ^ 31 ∧ s.2.1 < 2 ^ 31 ∧ s.2.2 < 2 ^ 60 :=
  ⟨Nat.lt_of_le_of_lt (Nat.le_trans h.2.1 (z_sm_le ht)) hb.2.2.1, Nat.lt_of_le_of_lt (Nat.le_trans h.2.2.2.1 (z_sm_le ht)) hb.2.2.2, Nat.lt_of_lt_of_le h.2.2.2.2.1 (z_pow_le (Nat.le_trans ht hb.1))⟩
theorem z_bnd_of {s : ZT} (h : s.1 < 2 ^ 31 ∧ s.2.1 < 2 ^ 31 ∧ s.2.2 < 2 ^ 60) : z_bnd s := ⟨by omega, by omega, by omega⟩
theorem s7_goes_139 {n : Nat} {w p : Nat → Nat} {R f t : Nat} {L : List ZT} {t_w t_p t_nextProfit t_nextWeight t_nextBits : Nat → Int64} {t_all : Nat → Int32} {t_made t_nexts : Int32} (hb : y_bd n w p) (hwp : y_wp n w p t_w t_p) (hR : R < 2 ^ 31) (ht : t ≤ n) (hf : f ≤ n) (hl : L.length ≤ 2000)
    (hs : ∀ s ∈ L, s.1 < 2 ^ 31 ∧ s.2.1 < 2 ^ 31) {F : ZT}
    {post : Int32 → Int32 → Int32 → Int32 → Int32 → Int64 → Int64 → Int64 → Int32 → (Nat → Int64) → (Nat → Int64) → (Nat → Int64) → (Nat → Int64) → (Nat → Int64) → (Nat → Int64) → Prop}
    {sw sb sp : Nat → Int64} (hset : y_set L sw sp sb)
    (hk : ∀ sw sb sp : Nat → Int64, y_set (L.filter (z_stay n w p R f t F)) sw sp sb → post 1 (nI f) (y_to t) t_made (nI (L.filter (z_stay n w p R f t F)).length) (lN F.2.2) (lN F.1) (lN F.2.1) t_nexts sw sb sp t_nextProfit t_nextWeight t_nextBits) :
    ∀ (r k : Nat) (b : ZT), k + r = L.length → b.2.1 < 2 ^ 31 → z_fit R (L.drop k) b = F →
      wX7_goes_139 (nI n) (lN R) t_w t_p t_all post (r + 1) (nI f) (y_to t) t_made (nI L.length) (lN b.2.2) (lN b.1) (lN b.2.1) t_nexts sw sb sp t_nextProfit t_nextWeight t_nextBits (nI k) := by
  have hn := hb.1
  intro r
  induction r with
  | zero =>
    intro k b hkr hbp hF
    rw [wX7_goes_139]
    unfold wX7_goes_139_b
    simp (disch := omega) only [q32, q64, nI_add, nI_ltI, nI_leI, nI_eq, nI_clamp, vp_in_nI, lN_add, lN_mul, pk_lLT, pk_lLE, pk_lEQ, nI_l, lN_i, nI_sub, nI_an, lN_sub, lN_an, Nat.add_sub_cancel, and_true, true_and]
    refine ⟨fun _ => ⟨L.length + 1, ?_⟩, fun h => by omega⟩
    rw [List.drop_eq_nil_of_le (by omega), z_fit] at hF
    subst hF
    exact s7_goes_216 hb hwp hR ht hf hl hs hbp hk L.length 0 [] sw sb sp (by omega) (Nat.le_refl _) (by simp) (fun i hi => by simp at hi) (fun i hi _ => hset i hi)
  | succ r ih =>
    intro k b hkr hbp hF
    have hkL : k < L.length := by omega
    obtain ⟨e1, e2, e3⟩ := hset k hkL
    obtain ⟨s1, s2⟩ := hs _ (List.getElem_mem hkL)
    rw [List.drop_eq_getElem_cons hkL, z_fit] at hF
    rw [wX7_goes_139]
    unfold wX7_goes_139_b wX7_goes_205
    simp (disch := omega) only [q32, q64, nI_add, nI_ltI, nI_leI, nI_eq, nI_clamp, vp_in_nI, lN_add, lN_mul, pk_lLT, pk_lLE, pk_lEQ, nI_l, lN_i, nI_sub, nI_an, lN_sub, lN_an, Nat.add_sub_cancel, and_true, true_and, e1, e2, e3]
    refine ⟨fun h => by omega, fun _ => ⟨fun h => ih (k + 1) b (by omega) hbp ?_, fun h => ⟨fun g => ih (k + 1) b (by omega) hbp ?_, fun g => ih (k + 1) L[k] (by omega) s2 ?_⟩⟩⟩
    · rw [if_neg (by omega)] at hF; exact hF
    · rw [if_neg (by omega)] at hF; exact hF
    · rw [if_pos (by omega)] at hF; exact hF
theorem s7_goes {n : Nat} {w p : Nat → Nat} {R M : Nat} {c : ZC} {t_w t_p : Nat → Int64} {t_all : Nat → Int32} {t_nexts : Int32} {t_setWeight t_setBits t_setProfit t_nextProfit t_nextWeight t_nextBits : Nat → Int64} (hb : y_bd n w p) (hwp : y_wp n w p t_w t_p) (hok : z_ok n w p R M c) (hp : ¬ z_proved n c = true) (hM : t_all 2 = nI M) (hM1 : M ≤ 1000) (hR : R < 2 ^ 31)
    (hset : y_set c.2.2.2.1 t_setWeight t_setProfit t_setBits)
    {post : Int32 → Int32 → Int32 → Int32 → Int32 → Int64 → Int64 → Int64 → Int32 → (Nat → Int64) → (Nat → Int64) → (Nat → Int64) → (Nat → Int64) → (Nat → Int64) → (Nat → Int64) → Prop}
    (h0 : z_step n w p R M c = none → ∀ (nx : Int32) (np nw nb : Nat → Int64), post 0 (nI c.1) (y_to c.2.1) (nI c.2.2.1) (nI c.2.2.2.1.length) (lN c.2.2.2.2.2.2) (lN c.2.2.2.2.1) (lN c.2.2.2.2.2.1) nx t_setWeight t_setBits t_setProfit np nw nb)
    (h1 : ∀ d : ZC, z_step n w p R M c = some d → ∀ (nx : Int32) (sw sb sp np nw nb : Nat → Int64), y_set d.2.2.2.1 sw sp sb → post 1 (nI d.1) (y_to d.2.1) (nI d.2.2.1) (nI d.2.2.2.1.length) (lN d.2.2.2.2.2.2) (lN d.2.2.2.2.1) (lN d.2.2.2.2.2.1) nx sw sb sp np nw nb) :
    wX7_goes (nI n) (lN R) t_w t_p t_all post (nI c.1) (y_to c.2.1) (nI c.2.2.1) (nI c.2.2.2.1.length) (lN c.2.2.2.2.2.2) (lN c.2.2.2.2.1) (lN c.2.2.2.2.2.1) t_nexts t_setWeight t_setBits t_setProfit t_nextProfit t_nextWeight t_nextBits := by
  have hn := hb.1
  obtain ⟨a1, a2, a3, a4, a5, a6⟩ := z_new_ok (R := R) hok hp
  obtain ⟨⟨o1, o2, o3⟩, oi, os, ol, ob, oR⟩ := hok
  have hp1 := of_decide_eq_false (eq_false_of_ne_true hp)
  have hsL : ∀ s ∈ c.2.2.2.1, s.1 < 2 ^ 31 ∧ s.2.1 < 2 ^ 31 ∧ s.2.2 < 2 ^ 60 := fun s hs => z_in_lt hb o2 (os s hs)
  have hsN : ∀ s ∈ z_new n w p c, s.1 < 2 ^ 31 ∧ s.2.1 < 2 ^ 31 ∧ s.2.2 < 2 ^ 60 := fun s hs => z_in_lt hb a5 (a2 s hs)
  have hbp := (z_in_lt hb (Nat.le_refl n) ob).2.1
  -- behind the merge
  have behind : ∀ (v1 : Int32) (np nw nb : Nat → Int64), (z_right n c.1 c.2.1 c.2.2.1 = true ∧ v1 = 1 ∨ ¬ z_right n c.1 c.2.1 c.2.2.1 = true ∧ v1 = 0) → y_set (z_new n w p c) nw np nb →
      wX7_goes_72 (nI n) (lN R) t_w t_p t_all post (nI c.1) (y_to c.2.1) (nI c.2.2.1) (nI c.2.2.2.1.length) (lN c.2.2.2.2.2.2) (lN c.2.2.2.2.1) (lN c.2.2.2.2.2.1) (nI (z_new n w p c).length) t_setWeight t_setBits t_setProfit np nw nb v1 := by
    intro v1 np nw nb hv hy
    unfold wX7_goes_72
    simp (disch := omega) only [q32, q64, nI_add, nI_ltI, nI_leI, nI_eq, nI_clamp, vp_in_nI, lN_add, lN_mul, pk_lLT, pk_lLE, pk_lEQ, nI_l, lN_i, nI_sub, nI_an, lN_sub, lN_an, Nat.add_sub_cancel, and_true, true_and, hM]
    refine ⟨fun hle => ?_, fun hgt => h0 (by unfold z_step; rw [if_pos (by omega)]) _ _ _ _⟩
    refine s7_takesNexts hy (by omega) (fun sb sw sp hy2 => ?_)
    have hstep : z_step n w p R M c = some (z_to n w p R c) := by unfold z_step; rw [if_neg (by omega)]
    have fin := h1 _ hstep (nI (z_new n w p c).length)
    rcases hv with ⟨hr, rfl⟩ | ⟨hr, rfl⟩
    · have ht := z_right_t hr (fun z => hp1 (Or.inr z)) o2
      have e1 : z_to n w p R c = z_mk n w p R c.1 (c.2.1 + 1) (c.2.2.1 + 1) (z_new n w p c) c.2.2.2.2 := by unfold z_to; rw [if_pos hr]
      rw [e1] at fin
      unfold wX7_goes_91
      refine ⟨fun z => absurd z (by decide), fun _ => ?_⟩
      unfold wX7_goes_105
      refine ⟨fun z => absurd z (by decide), fun _ => ?_⟩
      unfold wX7_goes_123
      have e2 : y_to c.2.1 + 1 = y_to (c.2.1 + 1) := by
        rw [show (1 : Int32) = nI 1 from rfl, y_to_1]
        unfold y_to
        rw [← nI_1, Int32.add_sub_cancel]
      rw [e2, show nI c.1 - 0 = nI c.1 from Int32.sub_zero _, nI_1]
      exact ⟨_, s7_goes_139 (F := z_fit R (z_new n w p c) c.2.2.2.2) hb hwp hR (by omega) (by omega) (by omega) (fun s hs => ⟨(hsN s hs).1, (hsN s hs).2.1⟩) hy2 (fun sw' sb' sp' hy3 => fin sw' sb' sp' _ _ _ hy3) _ 0 _ (Nat.zero_add _) hbp rfl⟩
    · have hf := z_right_f hr
      have e1 : z_to n w p R c = z_mk n w p R (c.1 - 1) c.2.1 (c.2.2.1 + 1) (z_new n w p c) c.2.2.2.2 := by unfold z_to; rw [if_neg hr]
      rw [e1] at fin
      unfold wX7_goes_91
      refine ⟨fun _ => ?_, fun z => absurd rfl z⟩
      unfold wX7_goes_105
      refine ⟨fun _ => ?_, fun z => absurd rfl z⟩
      unfold wX7_goes_123
      rw [show y_to c.2.1 + 0 = y_to c.2.1 from Int32.add_zero _, show nI c.1 - 1 = nI (c.1 - 1) from nI_sub (b := 1) (by omega), nI_1]
      exact ⟨_, s7_goes_139 (F := z_fit R (z_new n w p c) c.2.2.2.2) hb hwp hR (by omega) (by omega) (by omega) (fun s hs => ⟨(hsN s hs).1, (hsN s hs).2.1⟩) hy2 (fun sw' sb' sp' hy3 => fin sw' sb' sp' _ _ _ hy3) _ 0 _ (Nat.zero_add _) hbp rfl⟩
  unfold wX7_goes
  refine s7_isRight hn (by omega) (by omega) (by omega) (fun hr => ?_) (fun hr => ?_)
  · have ht := z_right_t hr (fun z => hp1 (Or.inr z)) o2
    obtain ⟨w1, p1⟩ := hwp c.2.1 ht
    have l1 := hb.lt ht
    have hnew : z_new n w p c = z_next (z_shR w p c.2.1) c.2.2.2.1 := by unfold z_new; rw [if_pos hr]
    obtain ⟨-, -, -, q4⟩ := z_next_ok (sh := z_shR w p c.2.1) oi (z_inc_R oi)
    unfold wX7_goes_4
    refine ⟨fun z => absurd z (by decide), fun _ => ?_⟩
    unfold wX7_goes_24
    refine ⟨fun z => absurd z (by decide), fun _ => ?_⟩
    rw [show y_to c.2.1 + 1 = nI c.2.1 from y_to_1 _, nI_clamp (by omega), w1, show (1 : Int64) = lN 1 from rfl, wb_shl 1 (show c.2.1 < 64 by omega), Nat.one_mul]
    refine ⟨vp_in_nI (by omega) (by omega), ?_⟩
    unfold wX7_goes_49
    refine ⟨fun z => absurd z (by decide), fun _ => ?_⟩
    rw [nI_clamp (by omega), p1]
    refine ⟨vp_in_nI (by omega) (by omega), ?_⟩
    unfold wX7_goes_69
    have hpw : 2 ^ c.2.1 ≤ 2 ^ 59 := z_pow_le (by omega)
    refine s7_doubles (sh := z_shR w p c.2.1) hset (fun s hs => ?_) (by omega) (fun s hs => ?_) (fun np nw nb hy => ?_)
    · have := hsL s hs
      exact ⟨z_bnd_of this, ⟨show s.1 + w c.2.1 < 2 ^ 62 by omega, show s.2.1 + p c.2.1 < 2 ^ 62 by omega, show s.2.2 + 2 ^ c.2.1 < 2 ^ 62 by omega⟩⟩
    · have h9 := (os s hs).2.2.2.2.1
      refine ⟨lN_add _ _, lN_add _ _, ?_⟩
      rw [z_lxor _ _ (by omega) (by omega), z_nxor_lt h9]
      rfl
    · have hlen : (z_mm c.2.2.2.1 (c.2.2.2.1.map (z_shR w p c.2.1)) []).length = (z_new n w p c).length := by rw [hnew, q4, List.length_reverse]
      rw [hlen]
      exact behind 1 np nw nb (Or.inl ⟨hr, rfl⟩) (by rw [hnew, q4]; exact hy)
  · have hf := z_right_f hr
    have hf1 : c.1 - 1 < n := by omega
    obtain ⟨w1, p1⟩ := hwp (c.1 - 1) hf1
    have l1 := hb.lt hf1
    have hq : ∀ s ∈ c.2.2.2.1, w (c.1 - 1) ≤ s.1 ∧ p (c.1 - 1) ≤ s.2.1 ∧ 2 ^ (c.1 - 1) ≤ s.2.2 ∧ z_in w p (c.1 - 1) c.2.1 (z_shL w p (c.1 - 1) s) := fun s hs' => by
      have := os s hs'
      rw [show c.1 = (c.1 - 1) + 1 by omega] at this
      exact z_in_L this
    have hnew : z_new n w p c = z_next (z_shL w p (c.1 - 1)) c.2.2.2.1 := by unfold z_new; rw [if_neg hr]
    obtain ⟨-, -, -, q4⟩ := z_next_ok (sh := z_shL w p (c.1 - 1)) oi (z_inc_L oi (fun s hs' => ⟨(hq s hs').1, (hq s hs').2.1⟩))
    unfold wX7_goes_4
    refine ⟨fun _ => ?_, fun z => absurd rfl z⟩
    unfold wX7_goes_24
    refine ⟨fun _ => ?_, fun z => absurd rfl z⟩
    rw [show nI c.1 - 1 = nI (c.1 - 1) from nI_sub (b := 1) (by omega), nI_clamp (by omega), w1, show (1 : Int64) = lN 1 from rfl, wb_shl 1 (show c.1 - 1 < 64 by omega), Nat.one_mul]
    refine ⟨vp_in_nI (by omega) (by omega), ?_⟩
    unfold wX7_goes_49
    refine ⟨fun _ => ?_, fun z => absurd rfl z⟩
    rw [nI_clamp (by omega), p1]
    refine ⟨vp_in_nI (by omega) (by omega), ?_⟩
    unfold wX7_goes_69
    have hpw : 2 ^ (c.1 - 1) ≤ 2 ^ 59 := z_pow_le (by omega)
    refine s7_doubles (sh := z_shL w p (c.1 - 1)) hset (fun s hs => ?_) (by omega) (fun s hs => ?_) (fun np nw nb hy => ?_)
    · have := hsL s hs
      exact ⟨z_bnd_of this, ⟨show s.1 - w (c.1 - 1) < 2 ^ 62 by omega, show s.2.1 - p (c.1 - 1) < 2 ^ 62 by omega, Nat.lt_of_le_of_lt (Nat.sub_le _ _) (by omega)⟩⟩
    · have h9 := (os s hs).2.2.2.2.2
      have h8 := hsL s hs
      obtain ⟨g1, g2, g3, -⟩ := hq s hs
      refine ⟨lN_an g1, lN_an g2, ?_⟩
      rw [show c.1 = (c.1 - 1) + 1 by omega] at h9
      rw [z_lxor _ _ (by omega) (by omega), z_nxor_ge h9]
      rfl
    · have hlen : (z_mm c.2.2.2.1 (c.2.2.2.1.map (z_shL w p (c.1 - 1))) []).length = (z_new n w p c).length := by rw [hnew, q4, List.length_reverse]
      rw [hlen]
      exact behind 0 np nw nb (Or.inr ⟨hr, rfl⟩) (by rw [hnew, q4]; exact hy)
/-- weight and profit of the item at a place -/
def z_w (e : Nat) (W P : Nat → Nat) (n j : Nat) : Nat := W (z_u e (z_o e W P (z_c e n) j))
def z_p (e : Nat) (W P : Nat → Nat) (n j : Nat) : Nat := P (z_u e (z_o e W P (z_c e n) j))
theorem z_sm_skip {e : Nat} {W : Nat → Nat} : ∀ {n : Nat}, z_sm (fun i => W (z_u e i)) (z_c e n) ≤ z_sm W n
  | 0 => by unfold z_c; split <;> exact Nat.le_refl _
  | n + 1 => by
    have ih := z_sm_skip (e := e) (W := W) (n := n)
    by_cases h : n = e
    · subst h
      rw [z_c_e]
      exact Nat.le_trans ih (Nat.le_add_right _ _)
    · rw [z_c_s h]
      simp only [z_sm]
      rw [z_u_c h]
      omega
theorem y_all.bd {n : Nat} {W P : Nat → Nat} {a : Nat → Int32} (h : y_all n W P a) (e : Nat) : y_bd (z_c e n) (z_w e W P n) (z_p e W P n) := by
  obtain ⟨h0, h1, h2, h3, h4, h5⟩ := h
  refine ⟨Nat.le_trans z_c_le h1, fun j hj => h3 _ (z_u_lt (z_ord_lt hj)), ?_, ?_⟩
  · have := z_ord_sum (b := z_bt (fun i => W (z_u e i)) (fun i => P (z_u e i))) (fun i => W (z_u e i)) (n := z_c e n)
    have h6 : z_sm (z_w e W P n) (z_c e n) = z_sm (fun i => W (z_u e i)) (z_c e n) := this
    rw [h6]
    exact Nat.lt_of_le_of_lt z_sm_skip h4
  · have := z_ord_sum (b := z_bt (fun i => W (z_u e i)) (fun i => P (z_u e i))) (fun i => P (z_u e i)) (n := z_c e n)
    have h6 : z_sm (z_p e W P n) (z_c e n) = z_sm (fun i => P (z_u e i)) (z_c e n) := this
    rw [h6]
    exact Nat.lt_of_le_of_lt z_sm_skip h5
def y_arr (e : Nat) (W P : Nat → Nat) (n : Nat) (t_orderOf t_placeOf : Nat → Int32) (t_w t_p : Nat → Int64) : Prop :=
  (∀ j, j < z_c e n → t_orderOf j = nI (z_u e (z_o e W P (z_c e n) j))) ∧ (∀ i, i < z_c e n → t_placeOf (z_u e i) = nI (z_pl (z_o e W P (z_c e n)) i (z_c e n))) ∧ y_wp (z_c e n) (z_w e W P n) (z_p e W P n) t_w t_p
theorem s7_breaks {n : Nat} {w p : Nat → Nat} {R : Nat} {t_w t_p : Nat → Int64} (hb : y_bd n w p) (hwp : y_wp n w p t_w t_p) (hR : R < 2 ^ 31) {post : Int32 → Int64 → Int64 → Prop} {t_breakAt : Int32} {t_breakWeight t_breakProfit : Int64}
    (hk : post (nI (z_bk w R n 0)) (lN (z_sm w (z_bk w R n 0))) (lN (z_sm p (z_bk w R n 0)))) : wX7_breaks (nI n) (lN R) t_w t_p post t_breakAt t_breakWeight t_breakProfit := by
  have hn := hb.1
  have main : ∀ (r k : Nat), k + r = n → z_bk w R r k = z_bk w R n 0 → wX7_breaks_15 (nI n) (lN R) t_w t_p post (r + 1) (nI k) (lN (z_sm w k)) (lN (z_sm p k)) := by
    intro r
    induction r with
    | zero =>
      intro k hkr hB
      rw [wX7_breaks_15]
      unfold wX7_breaks_15_b
      simp (disch := omega) only [q32, q64, nI_add, nI_ltI, nI_leI, nI_eq, nI_clamp, vp_in_nI, lN_add, lN_mul, pk_lLT, pk_lLE, pk_lEQ, nI_l, lN_i, nI_sub, nI_an, lN_sub, lN_an, Nat.add_sub_cancel, and_true, true_and]
      refine ⟨fun _ => ?_, fun h => by omega⟩
      rw [z_bk] at hB
      rw [hB]; exact hk
    | succ r ih =>
      intro k hkr hB
      have hkn : k < n := by omega
      obtain ⟨w1, p1⟩ := hwp k hkn
      have s1 : z_sm w (k + 1) ≤ z_sm w n := z_sm_le (by omega)
      have s2 : z_sm p (k + 1) ≤ z_sm p n := z_sm_le (by omega)
      have hb3 := hb.2.2
      simp only [z_sm] at s1 s2
      rw [z_bk] at hB
      rw [wX7_breaks_15]
      unfold wX7_breaks_15_b
      simp (disch := omega) only [q32, q64, nI_add, nI_ltI, nI_leI, nI_eq, nI_clamp, vp_in_nI, lN_add, lN_mul, pk_lLT, pk_lLE, pk_lEQ, nI_l, lN_i, nI_sub, nI_an, lN_sub, lN_an, Nat.add_sub_cancel, and_true, true_and, w1, p1]
      refine ⟨fun h => by omega, fun _ => ⟨fun h => ?_, fun h => ?_⟩⟩
      · rw [if_neg (by simp only [z_sm]; omega)] at hB
        rw [← hB] at hk
        exact hk
      · rw [if_pos (by simp only [z_sm]; omega)] at hB
        exact ih (k + 1) (by omega) hB
  unfold wX7_breaks
  exact ⟨n + 1, main n 0 (by omega) rfl⟩
theorem z_begin_p {n : Nat} {w p : Nat → Nat} {R : Nat} (hn : n ≤ 60) : z_bk w R n 0 ≤ n ∧ z_bk w R n 0 ≤ 60 := by
  obtain ⟨-, h2, -⟩ := z_bk_spec (w := w) (R := R) (r := n) (k := 0) (Nat.zero_le _)
  omega
theorem s7_begins {n e : Nat} {W P : Nat → Nat} {R : Nat} {t_all : Nat → Int32} (hA : y_all n W P t_all) (hR : R < 2 ^ 31) {v1 : Int32} (hv : ∀ i, i < n → (nI i = v1 ↔ i = e)) {post : Int32 → Int64 → Int32 → Int64 → Int64 → Int32 → Int32 → Int32 → Int32 → Int64 → Int64 → Int64 → (Nat → Int32) → (Nat → Int32) → (Nat → Int64) → (Nat → Int64) → (Nat → Int64) → (Nat → Int64) → (Nat → Int64) → Prop} {t_many : Int32} {t_room : Int64} {t_breakAt : Int32} {t_breakWeight t_breakProfit : Int64} {t_from t_to t_made t_sets : Int32} {t_bestBits t_bestWeight t_bestProfit : Int64} {t_orderOf t_placeOf : Nat → Int32} {t_w t_p t_setBits t_setWeight t_setProfit : Nat → Int64}
    (hk : ∀ (orderOf placeOf : Nat → Int32) (tw tp sb sw sp : Nat → Int64), y_arr e W P n orderOf placeOf tw tp → y_set (z_begin (z_c e n) (z_w e W P n) (z_p e W P n) R).2.2.2.1 sw sp sb →
      post (nI (z_c e n)) (lN R) (nI (z_bk (z_w e W P n) R (z_c e n) 0)) (lN (z_sm (z_w e W P n) (z_bk (z_w e W P n) R (z_c e n) 0))) (lN (z_sm (z_p e W P n) (z_bk (z_w e W P n) R (z_c e n) 0)))
        (nI (z_begin (z_c e n) (z_w e W P n) (z_p e W P n) R).1) (y_to (z_begin (z_c e n) (z_w e W P n) (z_p e W P n) R).2.1) (nI 0) (nI 1) (lN (z_begin (z_c e n) (z_w e W P n) (z_p e W P n) R).2.2.2.2.2.2) (lN (z_begin (z_c e n) (z_w e W P n) (z_p e W P n) R).2.2.2.2.1) (lN (z_begin (z_c e n) (z_w e W P n) (z_p e W P n) R).2.2.2.2.2.1) orderOf placeOf tw tp sb sw sp) :
    wX7_begins t_all post t_many t_room t_breakAt t_breakWeight t_breakProfit t_from t_to t_made t_sets t_bestBits t_bestWeight t_bestProfit t_orderOf t_placeOf t_w t_p t_setBits t_setWeight t_setProfit v1 (lN R) := by
  have hb := hA.bd e
  obtain ⟨hbk, hbk2⟩ := z_begin_p (n := z_c e n) (w := z_w e W P n) (p := z_p e W P n) (R := R) hb.1
  unfold wX7_begins
  refine s7_orders hA hv (fun orderOf placeOf tw tp h1 h2 h3 => ?_)
  unfold wX7_begins_10
  refine s7_breaks hb h3 hR ?_
  unfold wX7_begins_14
  have hp := z_pow_pos (z_bk (z_w e W P n) R (z_c e n) 0)
  have hsh : ((1 : Int64) <<< ((nI (z_bk (z_w e W P n) R (z_c e n) 0)).toInt64 &&& 63)) - 1 = lN (2 ^ z_bk (z_w e W P n) R (z_c e n) 0 - 1) := by
    rw [show (1 : Int64) = lN 1 from rfl, wb_shl 1 (by omega), Nat.one_mul, lN_sub (by omega)]
  rw [hsh, show ((0 : Int32)).toNatClampNeg = 0 from rfl, pk_uLs]
  refine hk orderOf placeOf tw tp _ _ _ ⟨h1, h2, h3⟩ (fun i hi => ?_)
  have hi0 : i = 0 := by
    have : i < 1 := hi
    omega
  subst hi0
  rw [pk_uLs, pk_uLs, pk_uLs]
  exact ⟨rfl, rfl, rfl⟩
