/-! what is asked: reduced costs, what is fixed, what fits, bits -/
theorem l_toN {r : Int64} {n : Nat} (hn : n < 2 ^ 63) (h : r.toInt = (n : Int)) : r = lN n := Int64.toInt_inj.mp (by rw [h, pk_lT hn])
def z_red (n : Nat) (w p : Nat → Nat) (R j : Nat) : Int :=
  if j < z_bk w R n 0 then (z_sm p (z_bk w R n 0) : Int) - (p j : Int) + ((R : Int) - (z_sm w (z_bk w R n 0) : Int) + (w j : Int)) * (p (z_bk w R n 0) : Int) / (w (z_bk w R n 0) : Int)
  else (z_sm p (z_bk w R n 0) : Int) + (p j : Int) + ((R : Int) - (z_sm w (z_bk w R n 0) : Int) - (w j : Int)) * (p (z_bk w R n 0) : Int) / (w (z_bk w R n 0) : Int)
theorem z_bk_ok {n : Nat} {w p : Nat → Nat} {R : Nat} (hb : y_bd n w p) : z_bk w R n 0 ≤ n ∧ z_sm w (z_bk w R n 0) ≤ R ∧ z_sm w (z_bk w R n 0) < 2 ^ 31 ∧ z_sm p (z_bk w R n 0) < 2 ^ 31 := by
  obtain ⟨-, h2, h3⟩ := z_bk_spec (w := w) (R := R) (r := n) (k := 0) (Nat.zero_le _)
  have h4 : z_bk w R n 0 ≤ n := by omega
  exact ⟨h4, h3, Nat.lt_of_le_of_lt (z_sm_le h4) hb.2.2.1, Nat.lt_of_le_of_lt (z_sm_le h4) hb.2.2.2⟩
theorem z_ediv_lt {a b : Int} {B : Int} (hb : 1 ≤ b) (h1 : -B ≤ a) (h2 : a ≤ B) (hB : 0 ≤ B) : -B ≤ a / b ∧ a / b ≤ B := by
  constructor
  · refine Int.le_ediv_of_mul_le (by omega) ?_
    have : -B * b ≤ -B * 1 := Int.mul_le_mul_of_nonpos_left (by omega) hb
    omega
  · rcases Int.le_total 0 a with h | h
    · exact Int.le_trans (Int.ediv_le_self _ h) h2
    · have := Int.ediv_nonpos_of_nonpos_of_neg h (show (0 : Int) < b by omega)
      omega
theorem z_mul_bd {a p : Int} (h1 : -2 ^ 32 ≤ a) (h2 : a ≤ 2 ^ 32) (hp0 : 0 ≤ p) (hp : p ≤ 2 ^ 31 - 1) : -(2 ^ 63 - 2 ^ 32) ≤ a * p ∧ a * p ≤ 2 ^ 63 - 2 ^ 32 := by
  constructor
  · rcases Int.le_total 0 a with h | h
    · have := Int.mul_nonneg h hp0
      omega
    · have h3 : (-a) * p ≤ 2 ^ 32 * (2 ^ 31 - 1) := Int.mul_le_mul (by omega) hp hp0 (by omega)
      rw [Int.neg_mul] at h3
      omega
  · rcases Int.le_total 0 a with h | h
    · have : a * p ≤ 2 ^ 32 * (2 ^ 31 - 1) := Int.mul_le_mul h2 hp hp0 (by omega)
      omega
    · have := Int.mul_nonpos_of_nonpos_of_nonneg h hp0
      omega
theorem l_sub_t {a b : Nat} (ha : a < 2 ^ 62) (hb : b < 2 ^ 62) : (lN a - lN b).toInt = (a : Int) - (b : Int) := by
  rw [Jvm.Kit.i64_sub, pk_lT (by omega), pk_lT (by omega)] <;> rw [pk_lT (by omega), pk_lT (by omega)] <;> omega
theorem l_addI {x y : Int64} {a b : Int} (hx : x.toInt = a) (hy : y.toInt = b) (h1 : -2 ^ 63 ≤ a + b) (h2 : a + b < 2 ^ 63) : (x + y).toInt = a + b := by
  rw [Jvm.Kit.i64_add, hx, hy] <;> rw [hx, hy] <;> omega
theorem l_subI {x y : Int64} {a b : Int} (hx : x.toInt = a) (hy : y.toInt = b) (h1 : -2 ^ 63 ≤ a - b) (h2 : a - b < 2 ^ 63) : (x - y).toInt = a - b := by
  rw [Jvm.Kit.i64_sub, hx, hy] <;> rw [hx, hy] <;> omega
theorem l_mulI {x y : Int64} {a b : Int} (hx : x.toInt = a) (hy : y.toInt = b) (h1 : -2 ^ 63 ≤ a * b) (h2 : a * b < 2 ^ 63) : (x * y).toInt = a * b := by
  rw [Jvm.Kit.i64_mul, hx, hy] <;> rw [hx, hy] <;> omega
theorem s2_reducedAt {n : Nat} {w p : Nat → Nat} {R j : Nat} {t_weights t_profits : Nat → Int32} {post : Int64 → Prop} (hb : y_bd n w p) (hwp : x_wp n w p t_weights t_profits) (hR : R < 2 ^ 31) (hj : j < n) (hk0 : z_bk w R n 0 < n) (hk : ∀ r : Int64, r.toInt = z_red n w p R j → post r) :
    wX2_reducedAt (nI n) (nI R) (nI (z_bk w R n 0)) (nI (z_sm w (z_bk w R n 0))) (nI (z_sm p (z_bk w R n 0))) t_profits t_weights post (nI j) := by
  have hn := hb.1
  obtain ⟨b1, b2, b3, b4⟩ := z_bk_ok (R := R) hb
  obtain ⟨e1, e2⟩ := hwp j hj
  have lj := hb.lt hj
  have lb := hb.lt hk0
  have pb := hb.2.1 _ hk0
  unfold z_red at hk
  unfold wX2_reducedAt
  rw [nI_clamp (by omega), e2, nI_l b4, nI_l lj.2, nI_ltI (by omega) (by omega), nI_leI (by omega) (by omega)]
  refine ⟨fun z => absurd z (nI_nlt (b := 0) (Nat.zero_le _) (by omega)), fun _ => ⟨fun _ => ⟨fun g => ⟨vp_in_nI (by omega) (by omega), ?_⟩, fun g => ⟨vp_in_nI (by omega) (by omega), ?_⟩⟩, fun z => absurd hj z⟩⟩
  · rw [if_neg (by omega)] at hk
    unfold wX2_roomLeft wX2_reducedAt_79
    rw [nI_clamp (by omega), e1, nI_l hR, nI_l b3, nI_l lj.1]
    refine ⟨vp_in_nI (by omega) (by omega), ?_⟩
    have ht : (lN R - lN (z_sm w (z_bk w R n 0)) - lN (w j)).toInt = (R : Int) - (z_sm w (z_bk w R n 0) : Int) - (w j : Int) := l_subI (l_sub_t (by omega) (by omega)) (pk_lT (by omega)) (by omega) (by omega)
    refine s2_worthDown hb hwp (by omega) (by rw [ht]; omega) (fun _ r hr => hk _ ?_) (fun z => by omega)
    rw [ht] at hr
    have hm := z_mul_bd (a := (R : Int) - (z_sm w (z_bk w R n 0) : Int) - (w j : Int)) (p := (p (z_bk w R n 0) : Int)) (by omega) (by omega) (by omega) (by omega)
    have hd := z_ediv_lt (b := (w (z_bk w R n 0) : Int)) (by omega) hm.1 hm.2 (by omega)
    refine l_addI (l_addI (pk_lT (by omega)) (pk_lT (by omega)) (by omega) (by omega)) hr ?_ ?_ <;> omega
  · rw [if_pos (by omega)] at hk
    unfold wX2_roomLeft wX2_reducedAt_44
    rw [nI_clamp (by omega), e1, nI_l hR, nI_l b3, nI_l lj.1]
    refine ⟨vp_in_nI (by omega) (by omega), ?_⟩
    have ht : (lN R - lN (z_sm w (z_bk w R n 0)) + lN (w j)).toInt = (R : Int) - (z_sm w (z_bk w R n 0) : Int) + (w j : Int) := l_addI (l_sub_t (by omega) (by omega)) (pk_lT (by omega)) (by omega) (by omega)
    refine s2_worthDown hb hwp (by omega) (by rw [ht]; omega) (fun _ r hr => hk _ ?_) (fun z => by omega)
    rw [ht] at hr
    have hm := z_mul_bd (a := (R : Int) - (z_sm w (z_bk w R n 0) : Int) + (w j : Int)) (p := (p (z_bk w R n 0) : Int)) (by omega) (by omega) (by omega) (by omega)
    have hd := z_ediv_lt (b := (w (z_bk w R n 0) : Int)) (by omega) hm.1 hm.2 (by omega)
    refine l_addI (l_subI (pk_lT (by omega)) (pk_lT (by omega)) (by omega) (by omega)) hr ?_ ?_ <;> omega
theorem s7_reducedAt {n : Nat} {w p : Nat → Nat} {R j : Nat} {t_w t_p : Nat → Int64} {post : Int64 → Prop} (hb : y_bd n w p) (hwp : y_wp n w p t_w t_p) (hR : R < 2 ^ 31) (hj : j < n) (hk0 : z_bk w R n 0 < n) (hk : ∀ r : Int64, r.toInt = z_red n w p R j → post r) :
    wX7_reducedAt (lN R) (nI (z_bk w R n 0)) (lN (z_sm w (z_bk w R n 0))) (lN (z_sm p (z_bk w R n 0))) t_p t_w post (nI j) := by
  have hn := hb.1
  obtain ⟨b1, b2, b3, b4⟩ := z_bk_ok (R := R) hb
  obtain ⟨e1, e2⟩ := hwp j hj
  obtain ⟨e3, e4⟩ := hwp _ hk0
  have lj := hb.lt hj
  have lb := hb.lt hk0
  have pb := hb.2.1 _ hk0
  unfold z_red at hk
  unfold wX7_reducedAt
  rw [nI_clamp (show j < 2 ^ 31 by omega), nI_clamp (show z_bk w R n 0 < 2 ^ 31 by omega), e1, e2, e3, e4, nI_leI (by omega) (by omega)]
  refine ⟨vp_in_nI (by omega) (by omega), vp_in_nI (by omega) (by omega), fun g => ⟨vp_in_nI (by omega) (by omega), vp_in_nI (by omega) (by omega), ?_⟩, fun g => ⟨vp_in_nI (by omega) (by omega), vp_in_nI (by omega) (by omega), ?_⟩⟩
  · rw [if_neg (by omega)] at hk
    have ht : (lN R - lN (z_sm w (z_bk w R n 0)) - lN (w j)).toInt = (R : Int) - (z_sm w (z_bk w R n 0) : Int) - (w j : Int) := l_subI (l_sub_t (by omega) (by omega)) (pk_lT (by omega)) (by omega) (by omega)
    have hm := z_mul_bd (a := (R : Int) - (z_sm w (z_bk w R n 0) : Int) - (w j : Int)) (p := (p (z_bk w R n 0) : Int)) (by omega) (by omega) (by omega) (by omega)
    have hmt := l_mulI ht (pk_lT (n := p (z_bk w R n 0)) (by omega)) (by omega) (by omega)
    have hd := z_ediv_lt (b := (w (z_bk w R n 0) : Int)) (by omega) hm.1 hm.2 (by omega)
    refine s7_downwards (by omega) lb.1 (fun r hr => hk _ ?_)
    rw [hmt] at hr
    refine l_addI (l_addI (pk_lT (by omega)) (pk_lT (by omega)) (by omega) (by omega)) hr ?_ ?_ <;> omega
  · rw [if_pos (by omega)] at hk
    have ht : (lN R - lN (z_sm w (z_bk w R n 0)) + lN (w j)).toInt = (R : Int) - (z_sm w (z_bk w R n 0) : Int) + (w j : Int) := l_addI (l_sub_t (by omega) (by omega)) (pk_lT (by omega)) (by omega) (by omega)
    have hm := z_mul_bd (a := (R : Int) - (z_sm w (z_bk w R n 0) : Int) + (w j : Int)) (p := (p (z_bk w R n 0) : Int)) (by omega) (by omega) (by omega) (by omega)
    have hmt := l_mulI ht (pk_lT (n := p (z_bk w R n 0)) (by omega)) (by omega) (by omega)
    have hd := z_ediv_lt (b := (w (z_bk w R n 0) : Int)) (by omega) hm.1 hm.2 (by omega)
    refine s7_downwards (by omega) lb.1 (fun r hr => hk _ ?_)
    rw [hmt] at hr
    refine l_addI (l_subI (pk_lT (by omega)) (pk_lT (by omega)) (by omega) (by omega)) hr ?_ ?_ <;> omega
def z_fix (n : Nat) (w p : Nat → Nat) (R bp j : Nat) : Bool := decide (z_bk w R n 0 < n ∧ z_red n w p R j ≤ (bp : Int))
theorem s6_isFixed {n : Nat} {w p : Nat → Nat} {R bp j : Nat} {t_core_ranked_weights t_core_ranked_profits : Nat → Int32} {post : Int32 → Prop} (hb : y_bd n w p) (hwp : x_wp n w p t_core_ranked_weights t_core_ranked_profits) (hR : R < 2 ^ 31) (hj : j < n) (hbp : bp < 2 ^ 31) (h1 : z_fix n w p R bp j = true → post 1) (h0 : z_fix n w p R bp j = false → post 0) :
    wX6_isFixed (nI bp) (nI n) (nI R) (nI (z_bk w R n 0)) (nI (z_sm w (z_bk w R n 0))) (nI (z_sm p (z_bk w R n 0))) t_core_ranked_profits t_core_ranked_weights post (nI j) := by
  have hn := hb.1
  obtain ⟨b1, b2, b3, b4⟩ := z_bk_ok (R := R) hb
  unfold z_fix at h1 h0
  unfold wX6_isFixed wX2_breakIsItem
  rw [nI_leI (by omega) (by omega)]
  refine ⟨fun g => ?_, fun g => ?_⟩
  · unfold wX6_isFixed_10
    refine ⟨fun _ => h0 (by rw [decide_eq_false_iff_not]; omega), fun z => absurd rfl z⟩
  · unfold wX6_isFixed_10
    refine ⟨fun z => absurd z (by decide), fun _ => ?_⟩
    refine s2_reducedAt hb hwp hR hj (by omega) (fun r hr => ?_)
    unfold wX6_isFixed_24
    rw [nI_l hbp, Int64.lt_iff_toInt_lt, hr, pk_lT (by omega)]
    exact ⟨fun z => h0 (by rw [decide_eq_false_iff_not]; omega), fun z => h1 (by rw [decide_eq_true_iff]; omega)⟩
theorem s7_isFixed {n : Nat} {w p : Nat → Nat} {R bp j : Nat} {t_w t_p : Nat → Int64} {post : Int32 → Prop} (hb : y_bd n w p) (hwp : y_wp n w p t_w t_p) (hR : R < 2 ^ 31) (hj : j < n) (hbp : bp < 2 ^ 31) (h1 : z_fix n w p R bp j = true → post 1) (h0 : z_fix n w p R bp j = false → post 0) :
    wX7_isFixed (nI n) (lN R) (nI (z_bk w R n 0)) (lN (z_sm w (z_bk w R n 0))) (lN (z_sm p (z_bk w R n 0))) (lN bp) t_p t_w post (nI j) := by
  have hn := hb.1
  obtain ⟨b1, b2, b3, b4⟩ := z_bk_ok (R := R) hb
  unfold z_fix at h1 h0
  unfold wX7_isFixed wX7_isBreak
  rw [nI_leI (by omega) (by omega)]
  refine ⟨fun g => ?_, fun g => ?_⟩
  · unfold wX7_isFixed_4
    refine ⟨fun _ => h0 (by rw [decide_eq_false_iff_not]; omega), fun z => absurd rfl z⟩
  · unfold wX7_isFixed_4
    refine ⟨fun z => absurd z (by decide), fun _ => ?_⟩
    refine s7_reducedAt hb hwp hR hj (by omega) (fun r hr => ?_)
    unfold wX7_isFixed_12
    rw [Int64.lt_iff_toInt_lt, hr, pk_lT (by omega)]
    exact ⟨fun z => h0 (by rw [decide_eq_false_iff_not]; omega), fun z => h1 (by rw [decide_eq_true_iff]; omega)⟩
/-- how many there are -/
def z_many (f : Nat → Bool) : Nat → Nat
  | 0 => 0
  | n + 1 => z_many f n + (if f n = true then 1 else 0)
theorem z_many_le {f : Nat → Bool} : ∀ {n : Nat}, z_many f n ≤ n
  | 0 => Nat.le_refl _
  | n + 1 => by
    have := z_many_le (f := f) (n := n)
    simp only [z_many]
    split <;> omega
theorem s6_countFixed {n : Nat} {w p : Nat → Nat} {R bp : Nat} {t_core_ranked_weights t_core_ranked_profits : Nat → Int32} {post : Int32 → Prop} (hb : y_bd n w p) (hwp : x_wp n w p t_core_ranked_weights t_core_ranked_profits) (hR : R < 2 ^ 31) (hbp : bp < 2 ^ 31) (hk : post (nI (z_many (z_fix n w p R bp) n))) :
    wX6_countFixed (nI n) (nI bp) (nI n) (nI R) (nI (z_bk w R n 0)) (nI (z_sm w (z_bk w R n 0))) (nI (z_sm p (z_bk w R n 0))) t_core_ranked_profits t_core_ranked_weights post := by
  have hn := hb.1
  have main : ∀ (r k : Nat), k + r = n → wX6_countFixed_4 (nI n) (nI bp) (nI n) (nI R) (nI (z_bk w R n 0)) (nI (z_sm w (z_bk w R n 0))) (nI (z_sm p (z_bk w R n 0))) t_core_ranked_profits t_core_ranked_weights post (r + 1) (nI (z_many (z_fix n w p R bp) k)) (nI k) := by
    intro r
    induction r with
    | zero =>
      intro k hkr
      rw [wX6_countFixed_4]
      unfold wX6_countFixed_4_b
      have e : k = n := by omega
      subst e
      exact ⟨fun _ => hk, fun h => absurd (Int32.le_refl _) h⟩
    | succ r ih =>
      intro k hkr
      have hih := ih (k + 1) (by omega)
      simp only [z_many] at hih
      rw [wX6_countFixed_4]
      unfold wX6_countFixed_4_b
      rw [nI_leI (by omega) (by omega)]
      refine ⟨fun h => by omega, fun _ => ?_⟩
      refine s6_isFixed hb hwp hR (by omega) hbp (fun h => ?_) (fun h => ?_)
      · unfold wX6_countFixed_24 wX6_countFixed_32
        rw [if_pos h] at hih
        refine ⟨fun z => absurd z (by decide), fun _ => ?_⟩
        rw [nI_1, nI_1]
        exact hih
      · unfold wX6_countFixed_24 wX6_countFixed_32
        rw [if_neg (by rw [h]; decide)] at hih
        refine ⟨fun _ => ?_, fun z => absurd rfl z⟩
        rw [nI_1, Int32.add_zero]
        exact hih
  unfold wX6_countFixed
  exact ⟨n + 1, main n 0 (by omega)⟩
theorem s7_fixedMany {n : Nat} {w p : Nat → Nat} {R bp : Nat} {t_w t_p : Nat → Int64} {post : Int32 → Prop} (hb : y_bd n w p) (hwp : y_wp n w p t_w t_p) (hR : R < 2 ^ 31) (hbp : bp < 2 ^ 31) (hk : post (nI (z_many (z_fix n w p R bp) n))) :
    wX7_fixedMany (nI n) (lN R) (nI (z_bk w R n 0)) (lN (z_sm w (z_bk w R n 0))) (lN (z_sm p (z_bk w R n 0))) (lN bp) t_p t_w post := by
  have hn := hb.1
  have main : ∀ (r k : Nat), k + r = n → wX7_fixedMany_4 (nI n) (lN R) (nI (z_bk w R n 0)) (lN (z_sm w (z_bk w R n 0))) (lN (z_sm p (z_bk w R n 0))) (lN bp) t_p t_w post (r + 1) (nI (z_many (z_fix n w p R bp) k)) (nI k) := by
    intro r
    induction r with
    | zero =>
      intro k hkr
      rw [wX7_fixedMany_4]
      unfold wX7_fixedMany_4_b
      have e : k = n := by omega
      subst e
      exact ⟨fun _ => hk, fun h => absurd (Int32.le_refl _) h⟩
    | succ r ih =>
      intro k hkr
      have hih := ih (k + 1) (by omega)
      simp only [z_many] at hih
      rw [wX7_fixedMany_4]
      unfold wX7_fixedMany_4_b
      rw [nI_leI (by omega) (by omega)]
      refine ⟨fun h => by omega, fun _ => ?_⟩
      refine s7_isFixed hb hwp hR (by omega) hbp (fun h => ?_) (fun h => ?_)
      · unfold wX7_fixedMany_18 wX7_fixedMany_26
        rw [if_pos h] at hih
        refine ⟨fun z => absurd z (by decide), fun _ => ?_⟩
        rw [nI_1, nI_1]
        exact hih
      · unfold wX7_fixedMany_18 wX7_fixedMany_26
        rw [if_neg (by rw [h]; decide)] at hih
        refine ⟨fun _ => ?_, fun z => absurd rfl z⟩
        rw [nI_1, Int32.add_zero]
        exact hih
  unfold wX7_fixedMany
  exact ⟨n + 1, main n 0 (by omega)⟩
/-- the reference counts all that fit: as the row rises, they are the first -/
def z_ct (R : Nat) : List ZT → Nat
  | [] => 0
  | s :: L => (if s.1 ≤ R then 1 else 0) + z_ct R L
theorem z_ct_0 {R : Nat} : ∀ {L : List ZT}, (∀ s ∈ L, R < s.1) → z_ct R L = 0
  | [], _ => rfl
  | s :: L, h => by
    unfold z_ct
    rw [if_neg (by have := h s List.mem_cons_self; omega), z_ct_0 (fun x hx => h x (List.mem_cons_of_mem _ hx))]
theorem z_ct_cf {R : Nat} : ∀ {L : List ZT}, z_inc L → z_ct R L = z_cf R L
  | [], _ => rfl
  | s :: L, h => by
    unfold z_ct z_cf
    split
    · rw [z_ct_cf (z_inc_tl h), Nat.add_comm]
    · rw [z_ct_0 (fun x hx => by have := ((List.pairwise_cons.mp h).1 x hx).1; omega)]
theorem s7_fitMany {L : List ZT} {R : Nat} {t_setWeight t_setProfit t_setBits : Nat → Int64} (hL : y_set L t_setWeight t_setProfit t_setBits) (hi : z_inc L) (hs : ∀ s ∈ L, s.1 < 2 ^ 31) (hlen : L.length ≤ 1000) (hR : R < 2 ^ 31) {post : Int32 → Prop} (hk : post (nI (z_cf R L))) :
    wX7_fitMany (lN R) (nI L.length) t_setWeight post := by
  rw [← z_ct_cf hi] at hk
  have main : ∀ (r k m : Nat), k + r = L.length → m + z_ct R (L.drop k) = z_ct R L → wX7_fitMany_4 (lN R) (nI L.length) t_setWeight post (r + 1) (nI m) (nI k) := by
    intro r
    induction r with
    | zero =>
      intro k m hkr hm
      rw [wX7_fitMany_4]
      unfold wX7_fitMany_4_b
      have e : k = L.length := by omega
      subst e
      rw [List.drop_eq_nil_of_le (Nat.le_refl _), z_ct, Nat.add_zero] at hm
      rw [hm]
      exact ⟨fun _ => hk, fun h => absurd (Int32.le_refl _) h⟩
    | succ r ih =>
      intro k m hkr hm
      have hkL : k < L.length := by omega
      have hsk := hs _ (List.getElem_mem hkL)
      rw [List.drop_eq_getElem_cons hkL, z_ct] at hm
      rw [wX7_fitMany_4]
      unfold wX7_fitMany_4_b wX7_fitMany_32
      rw [nI_leI (by omega) (by omega), nI_clamp (by omega), (hL k hkL).1, pk_lLT (by omega) (by omega)]
      refine ⟨fun h => by omega, fun _ => ⟨vp_in_nI (by omega) (by omega), fun g => ?_, fun g => ?_⟩⟩
      · rw [if_neg (by omega)] at hm
        rw [Int32.add_zero, nI_1]
        exact ih (k + 1) m (by omega) (by omega)
      · rw [if_pos (by omega)] at hm
        rw [nI_1, nI_1]
        exact ih (k + 1) (m + 1) (by omega) (by omega)
  unfold wX7_fitMany
  exact ⟨_, main L.length 0 0 (by omega) (by simp)⟩
theorem wb_sar {n k : Nat} (hn : n < 2 ^ 63) (hk : k < 64) : lN n >>> ((nI k).toInt64 &&& 63) = lN (n / 2 ^ k) := by
  rw [wb_c k hk]
  apply wb_inj
  rw [Int64.toBitVec_shiftRight, wb_tb, wb_tb, wb_tb, wb_sm k hk, BitVec.sshiftRight_eq', BitVec.sshiftRight_eq_of_msb_false]
  · apply BitVec.eq_of_toNat_eq
    rw [BitVec.toNat_ushiftRight, BitVec.toNat_ofNat, BitVec.toNat_ofNat, BitVec.toNat_ofNat, Nat.mod_eq_of_lt (show n < 2 ^ 64 by omega), Nat.mod_eq_of_lt (show k < 2 ^ 64 by omega), Nat.shiftRight_eq_div_pow, Nat.mod_eq_of_lt (Nat.lt_of_le_of_lt (Nat.div_le_self _ _) (by omega))]
  · rw [BitVec.msb_eq_false_iff_two_mul_lt, BitVec.toNat_ofNat, Nat.mod_eq_of_lt (by omega)]
    omega
def z_on (b k : Nat) : Bool := decide (b / 2 ^ k % 2 = 1)
theorem s7_isOn {b k : Nat} {post : Int32 → Prop} (hb : b < 2 ^ 63) (hk : k < 64) (h1 : z_on b k = true → post 1) (h0 : z_on b k = false → post 0) : wX7_isOn post (lN b) (nI k) := by
  have hd : b / 2 ^ k % 2 < 2 := Nat.mod_lt _ (by omega)
  unfold z_on at h1 h0
  unfold wX7_isOn
  rw [wb_sar hb hk, wb_a1 (Nat.lt_of_le_of_lt (Nat.div_le_self _ _) (by omega)), show (1 : Int64) = lN 1 from rfl, pk_lEQ (by omega) (by omega)]
  exact ⟨fun h => h1 (by rw [decide_eq_true_iff]; exact h), fun h => h0 (by rw [decide_eq_false_iff_not]; exact h)⟩
theorem s0_bestHas {b k n : Nat} {post : Int32 → Prop} (hb : b < 2 ^ 63) (hn : n ≤ 60) (hk : k < n) (h1 : z_on b k = true → post 1) (h0 : z_on b k = false → post 0) : wX0_bestHas (lN b) (nI n) post (nI k) := by
  have hd : b / 2 ^ k % 2 < 2 := Nat.mod_lt _ (by omega)
  unfold z_on at h1 h0
  unfold wX0_bestHas
  rw [wb_bit (by omega) (by omega), show (1 : Int64) = lN 1 from rfl, pk_lEQ (by omega) (by omega), nI_leI (by omega) (by omega)]
  exact ⟨fun z => absurd z (nI_nlt (b := 0) (Nat.zero_le _) (by omega)), fun _ => ⟨fun z => by omega, fun _ => ⟨fun h => h1 (by rw [decide_eq_true_iff]; exact h), fun h => h0 (by rw [decide_eq_false_iff_not]; exact h)⟩⟩⟩
theorem s7_ones {b : Nat} {post : Int32 → Prop} (hb : b < 2 ^ 63) (hk : post (nI (z_many (z_on b) 60))) : wX7_ones post (lN b) := by
  have main : ∀ (r k : Nat), k + r = 60 → wX7_ones_4 post (r + 1) (lN b) (nI (z_many (z_on b) k)) (nI k) := by
    intro r
    induction r with
    | zero =>
      intro k hkr
      rw [wX7_ones_4]
      unfold wX7_ones_4_b
      have e : k = 60 := by omega
      subst e
      exact ⟨fun _ => hk, fun h => absurd (Int32.le_refl _) h⟩
    | succ r ih =>
      intro k hkr
      have hih := ih (k + 1) (by omega)
      simp only [z_many] at hih
      rw [wX7_ones_4]
      unfold wX7_ones_4_b
      rw [show (60 : Int32) = nI 60 from rfl, nI_leI (by omega) (by omega)]
      refine ⟨fun h => by omega, fun _ => ?_⟩
      refine s7_isOn hb (by omega) (fun h => ?_) (fun h => ?_)
      · unfold wX7_ones_16 wX7_ones_24
        rw [if_pos h] at hih
        refine ⟨fun z => absurd z (by decide), fun _ => ?_⟩
        rw [nI_1, nI_1]
        exact hih
      · unfold wX7_ones_16 wX7_ones_24
        rw [if_neg (by rw [h]; decide)] at hih
        refine ⟨fun _ => ?_, fun z => absurd rfl z⟩
        rw [nI_1, Int32.add_zero]
        exact hih
  unfold wX7_ones
  exact ⟨61, main 60 0 (by omega)⟩
