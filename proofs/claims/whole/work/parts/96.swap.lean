/-! greedy and swap -/
def z_gr (w p : Nat → Nat) (R : Nat) : Nat → Nat × Nat × Int64
  | 0 => (0, 0, 0)
  | k + 1 => if (z_gr w p R k).1 + w k ≤ R then ((z_gr w p R k).1 + w k, (z_gr w p R k).2.1 + p k, (z_gr w p R k).2.2 ||| ((1 : Int64) <<< ((nI k).toInt64 &&& 63))) else z_gr w p R k
theorem z_gr_le {w p : Nat → Nat} {R : Nat} : ∀ {k : Nat}, (z_gr w p R k).1 ≤ z_sm w k ∧ (z_gr w p R k).2.1 ≤ z_sm p k
  | 0 => ⟨Nat.le_refl _, Nat.le_refl _⟩
  | k + 1 => by
    have := z_gr_le (w := w) (p := p) (R := R) (k := k)
    unfold z_gr
    split
    · simp only [z_sm]; omega
    · simp only [z_sm]; omega
def z_greedy (L : ZL) (v : Int32) : Int64 :=
  if v = 0 then lN (z_gr (l_w L) (l_p L) L.2.2.2.1 (l_n L)).2.1 else if v = 1 then lN (z_gr (l_w L) (l_p L) L.2.2.2.1 (l_n L)).1 else if v = 2 then (z_gr (l_w L) (l_p L) L.2.2.2.1 (l_n L)).2.2 else -1
theorem s6_greedy {L : ZL} {t_core_ranked_weights t_core_ranked_profits : Nat → Int32} {post : Int64 → Prop} {v1 : Int32} (hl : l_lim L) (hwp : x_wp (l_n L) (l_w L) (l_p L) t_core_ranked_weights t_core_ranked_profits) (hk : post (z_greedy L v1)) : wX6_greedy (nI (l_n L)) (nI L.2.2.2.1) t_core_ranked_weights t_core_ranked_profits post v1 := by
  have hbd : y_bd (l_n L) (l_w L) (l_p L) := z_lim_bd hl 60
  have hcl : l_n L = z_c 60 L.1 := rfl
  have hckl : l_bk L = z_bk (z_w 60 L.2.1 L.2.2.1 L.1) L.2.2.2.1 (z_c 60 L.1) 0 := rfl
  have hn := hbd.1
  have hR := hl.2.2.2.2.1
  unfold z_greedy at hk
  have main : ∀ (r k : Nat), k + r = l_n L → wX6_greedy_19 (nI (l_n L)) (nI L.2.2.2.1) t_core_ranked_weights t_core_ranked_profits post (r + 1) v1 (lN (z_gr (l_w L) (l_p L) L.2.2.2.1 k).1) (lN (z_gr (l_w L) (l_p L) L.2.2.2.1 k).2.1) (z_gr (l_w L) (l_p L) L.2.2.2.1 k).2.2 (nI k) := by
    intro r
    induction r with
    | zero =>
      intro k hkr
      rw [wX6_greedy_19]
      unfold wX6_greedy_19_b
      have e : k = l_n L := by omega
      subst e
      refine ⟨fun _ => ⟨fun h0 => ?_, fun h0 => ⟨fun h1 => ?_, fun h1 => ⟨fun h2 => ?_, fun h2 => ?_⟩⟩⟩, fun h => absurd (Int32.le_refl _) h⟩
      · rw [if_pos h0] at hk; exact hk
      · rw [if_neg h0, if_pos h1] at hk; exact hk
      · rw [if_neg h0, if_neg h1, if_pos h2] at hk; exact hk
      · rw [if_neg h0, if_neg h1, if_neg h2] at hk; exact hk
    | succ r ih =>
      intro k hkr
      have hkn : k < l_n L := by omega
      obtain ⟨e1, e2⟩ := hwp k hkn
      have l1 := hbd.lt hkn
      have hih := ih (k + 1) (by omega)
      have hle := z_gr_le (w := l_w L) (p := l_p L) (R := L.2.2.2.1) (k := k)
      have s1 : z_sm (l_w L) (k + 1) ≤ z_sm (l_w L) (l_n L) := z_sm_le (by omega)
      have s2 : z_sm (l_p L) (k + 1) ≤ z_sm (l_p L) (l_n L) := z_sm_le (by omega)
      simp only [z_sm] at s1 s2
      have b3 := hbd.2.2
      rw [z_gr] at hih
      rw [wX6_greedy_19]
      unfold wX6_greedy_19_b wX6_greedy_80
      rw [nI_leI (by omega) (by omega), nI_clamp (by omega), e1, e2, nI_l (by omega), nI_l l1.1, nI_l l1.2, lN_add, lN_add, pk_lLT (by omega) (by omega), nI_1]
      refine ⟨fun h => by omega, fun _ => ⟨vp_in_nI (by omega) (by omega), fun g => ?_, fun g => ⟨vp_in_nI (by omega) (by omega), vp_in_nI (by omega) (by omega), ?_⟩⟩⟩
      · rw [if_neg (by omega)] at hih; exact hih
      · rw [if_pos (by omega)] at hih; exact hih
  unfold wX6_greedy
  exact ⟨_, main (l_n L) 0 (by omega)⟩
theorem s7_greedy {L : ZL} {d : ZC} {t_all : Nat → Int32} {post : Int64 → Int32 → Int32 → Int64 → Int32 → Int64 → Int64 → Int32 → Int32 → Int32 → Int32 → Int64 → Int64 → Int64 → Int32 → (Nat → Int32) → (Nat → Int32) → (Nat → Int64) → (Nat → Int64) → (Nat → Int64) → (Nat → Int64) → (Nat → Int64) → (Nat → Int64) → (Nat → Int64) → (Nat → Int64) → Prop} {t_raised t_many : Int32} {t_room : Int64} {t_breakAt : Int32} {t_breakWeight t_breakProfit : Int64} {t_from t_to t_made t_sets : Int32} {t_bestBits t_bestWeight t_bestProfit : Int64} {t_nexts : Int32} {t_orderOf t_placeOf : Nat → Int32} {t_w t_p t_setBits t_setWeight t_setProfit t_nextProfit t_nextWeight t_nextBits : Nat → Int64} {v1 : Int32} (hl : l_lim L) (hL : y_L L t_all) (ha : l_at L d) (hk : ∀ (r : Int64) (t_raised' t_many' : Int32) (t_room' : Int64) (t_breakAt' : Int32) (t_breakWeight' t_breakProfit' : Int64) (t_from' t_to' t_made' t_sets' : Int32) (t_bestBits' t_bestWeight' t_bestProfit' : Int64) (t_nexts' : Int32) (t_orderOf' t_placeOf' : Nat → Int32) (t_w' t_p' t_setBits' t_setWeight' t_setProfit' t_nextProfit' t_nextWeight' t_nextBits' : Nat → Int64), r = z_greedy L v1 → t_raised' = 0 → post r t_raised' t_many' t_room' t_breakAt' t_breakWeight' t_breakProfit' t_from' t_to' t_made' t_sets' t_bestBits' t_bestWeight' t_bestProfit' t_nexts' t_orderOf' t_placeOf' t_w' t_p' t_setBits' t_setWeight' t_setProfit' t_nextProfit' t_nextWeight' t_nextBits') : wX7_greedy t_all post t_raised t_many t_room t_breakAt t_breakWeight t_breakProfit t_from t_to t_made t_sets t_bestBits t_bestWeight t_bestProfit t_nexts t_orderOf t_placeOf t_w t_p t_setBits t_setWeight t_setProfit t_nextProfit t_nextWeight t_nextBits v1 := by
  have hlo := hL.ld hl
  have hbd : y_bd (l_n L) (l_w L) (l_p L) := z_lim_bd hl 60
  have hcl : l_n L = z_c 60 L.1 := rfl
  have hckl : l_bk L = z_bk (z_w 60 L.2.1 L.2.2.1 L.1) L.2.2.2.1 (z_c 60 L.1) 0 := rfl
  have hn := hbd.1
  have hR := hl.2.2.2.2.1
  unfold z_greedy at hk
  unfold wX7_greedy
  refine s7_inI (a := 0) (b := 2) (by omega) (by omega) (fun m e _ hm => ?_) (fun h => ?_)
  · unfold wX7_greedy_14
    refine ⟨fun z => absurd z (by decide), fun _ => ?_⟩
    refine s7_lays hlo ha (fun nx orderOf placeOf tw tp sb sw sp np nw nb harr hy => ?_)
    unfold wX7_greedy_25
    refine ⟨l_n L + 1, ?_⟩
    generalize nI (z_bk (z_w 60 L.2.1 L.2.2.1 L.1) L.2.2.2.1 (z_c 60 L.1) 0) = y1
    generalize lN (z_sm (z_w 60 L.2.1 L.2.2.1 L.1) (z_bk (z_w 60 L.2.1 L.2.2.1 L.1) L.2.2.2.1 (z_c 60 L.1) 0)) = y2
    generalize lN (z_sm (z_p 60 L.2.1 L.2.2.1 L.1) (z_bk (z_w 60 L.2.1 L.2.2.1 L.1) L.2.2.2.1 (z_c 60 L.1) 0)) = y3
    generalize nI d.1 = y4
    generalize y_to d.2.1 = y5
    generalize nI d.2.2.1 = y6
    generalize nI d.2.2.2.1.length = y7
    generalize lN d.2.2.2.2.2.2 = y8
    generalize lN d.2.2.2.2.1 = y9
    generalize lN d.2.2.2.2.2.1 = y10
    have main : ∀ (r k : Nat), k + r = l_n L → wX7_greedy_36 t_all post (r + 1) 0 (nI (l_n L)) (lN L.2.2.2.1) y1 y2 y3 y4 y5 y6 y7 y8 y9 y10 nx orderOf placeOf tw tp sb sw sp np nw nb v1 (lN (z_gr (l_w L) (l_p L) L.2.2.2.1 k).1) (lN (z_gr (l_w L) (l_p L) L.2.2.2.1 k).2.1) (z_gr (l_w L) (l_p L) L.2.2.2.1 k).2.2 (nI k) := by
      intro r
      induction r with
      | zero =>
        intro k hkr
        rw [wX7_greedy_36]
        unfold wX7_greedy_36_b
        have e : k = l_n L := by omega
        subst e
        refine ⟨fun _ => ⟨fun h0 => ?_, fun h0 => ⟨fun h1 => ?_, fun h1 => ?_⟩⟩, fun h => absurd (Int32.le_refl _) h⟩
        · rw [if_pos h0] at hk; exact hk _ _ _ _ _ _ _ _ _ _ _ _ _ _ _ _ _ _ _ _ _ _ _ _ _ rfl rfl
        · rw [if_neg h0, if_pos h1] at hk; exact hk _ _ _ _ _ _ _ _ _ _ _ _ _ _ _ _ _ _ _ _ _ _ _ _ _ rfl rfl
        · have h2 : v1 = 2 := by
            have e3 : m = 0 ∨ m = 1 ∨ m = 2 := by omega
            rcases e3 with rfl | rfl | rfl
            · exact absurd e h0
            · exact absurd e h1
            · exact e
          rw [if_neg h0, if_neg h1, if_pos h2] at hk; exact hk _ _ _ _ _ _ _ _ _ _ _ _ _ _ _ _ _ _ _ _ _ _ _ _ _ rfl rfl
      | succ r ih =>
        intro k hkr
        have hkn : k < l_n L := by omega
        obtain ⟨e1, e2⟩ := (show y_wp (l_n L) (l_w L) (l_p L) tw tp from harr.2.2) k hkn
        have l1 := hbd.lt hkn
        have hih := ih (k + 1) (by omega)
        have hle := z_gr_le (w := l_w L) (p := l_p L) (R := L.2.2.2.1) (k := k)
        have s1 : z_sm (l_w L) (k + 1) ≤ z_sm (l_w L) (l_n L) := z_sm_le (by omega)
        have s2 : z_sm (l_p L) (k + 1) ≤ z_sm (l_p L) (l_n L) := z_sm_le (by omega)
        simp only [z_sm] at s1 s2
        have b3 := hbd.2.2
        rw [z_gr] at hih
        rw [wX7_greedy_36]
        unfold wX7_greedy_36_b wX7_greedy_93
        rw [nI_leI (by omega) (by omega), nI_clamp (by omega), e1, e2, lN_add, lN_add, pk_lLT (by omega) (by omega), nI_1]
        refine ⟨fun h => by omega, fun _ => ⟨vp_in_nI (by omega) (by omega), fun g => ?_, fun g => ⟨vp_in_nI (by omega) (by omega), vp_in_nI (by omega) (by omega), ?_⟩⟩⟩
        · rw [if_neg (by omega)] at hih; exact hih
        · rw [if_pos (by omega)] at hih; exact hih
    exact main (l_n L) 0 (by omega)
  · unfold wX7_greedy_14
    have q0 : ¬ v1 = 0 := fun e => h ⟨0, e, by omega, by omega⟩
    have q1 : ¬ v1 = 1 := fun e => h ⟨1, e, by omega, by omega⟩
    have q2 : ¬ v1 = 2 := fun e => h ⟨2, e, by omega, by omega⟩
    rw [if_neg q0, if_neg q1, if_neg q2] at hk
    exact ⟨fun _ => hk _ _ _ _ _ _ _ _ _ _ _ _ _ _ _ _ _ _ _ _ _ _ _ _ _ rfl rfl, fun z => absurd rfl z⟩
/-- the first of the best of those that may come -/
def z_fd (p : Nat → Nat) (ok : Nat → Bool) : Nat → Option Nat
  | 0 => none
  | k + 1 => if ok k = true then (match z_fd p ok k with
      | none => some k
      | some x => if p x < p k then some k else some x) else z_fd p ok k
def z_oi : Option Nat → Int32
  | none => -1
  | some x => nI x
theorem z_fd_lt {p : Nat → Nat} {ok : Nat → Bool} : ∀ {k x : Nat}, z_fd p ok k = some x → x < k
  | k + 1, x, h => by
    unfold z_fd at h
    split at h
    · cases e : z_fd p ok k with
      | none => rw [e] at h; cases h; omega
      | some y =>
        rw [e] at h
        have := z_fd_lt e
        simp only at h
        split at h
        · cases h; omega
        · cases h; omega
    · have := z_fd_lt h
      omega
theorem z_n1 {x : Nat} (h : x < 2 ^ 31) : ¬ nI x = -1 := fun e => by
  have h2 : (nI x).toInt = -1 := by rw [e]; rfl
  rw [nI_toInt h] at h2
  omega
def z_may (w : Nat → Nat) (R bw bb a b : Nat) : Bool := !z_on bb b && decide (bw + w b ≤ R + w a)
/-- what is best to swap, of those that go up to a -/
def z_in1 (p o : Nat → Nat) (a : Nat) (s : Nat × Int32 × Int32) : Option Nat → Nat × Int32 × Int32
  | none => s
  | some x => if s.1 + p a < p x then (p x - p a, nI (o a), nI (o x)) else s
def z_swp (n : Nat) (w p o : Nat → Nat) (R bw bb : Nat) : Nat → Nat × Int32 × Int32
  | 0 => (0, -1, -1)
  | a + 1 => if z_on bb a = true then z_in1 p o a (z_swp n w p o R bw bb a) (z_fd p (z_may w R bw bb a) n) else z_swp n w p o R bw bb a
theorem z_in1_p {p o : Nat → Nat} {a x : Nat} {s : Nat × Int32 × Int32} (h : s.1 + p a < p x) : z_in1 p o a s (some x) = (p x - p a, nI (o a), nI (o x)) := if_pos h
theorem z_in1_q {p o : Nat → Nat} {a x : Nat} {s : Nat × Int32 × Int32} (h : ¬ s.1 + p a < p x) : z_in1 p o a s (some x) = s := if_neg h
theorem z_in1_lt {p o : Nat → Nat} {a n : Nat} {s : Nat × Int32 × Int32} {f : Option Nat} (hp : ∀ x, x < n → p x < 2 ^ 31) (hs : s.1 < 2 ^ 31) (hf : ∀ x, f = some x → x < n) : (z_in1 p o a s f).1 < 2 ^ 31 := by
  cases f with
  | none => exact hs
  | some x =>
    have := hp x (hf x rfl)
    by_cases h : s.1 + p a < p x
    · rw [z_in1_p h]
      show p x - p a < _
      omega
    · rw [z_in1_q h]
      exact hs
theorem z_swp_lt {n : Nat} {w p o : Nat → Nat} {R bw bb : Nat} (hp : ∀ x, x < n → p x < 2 ^ 31) : ∀ {a : Nat}, (z_swp n w p o R bw bb a).1 < 2 ^ 31
  | 0 => by show 0 < 2 ^ 31; omega
  | a + 1 => by
    unfold z_swp
    split
    · exact z_in1_lt hp (z_swp_lt hp) (fun x hx => z_fd_lt hx)
    · exact z_swp_lt hp
/-- one more that may come -/
theorem z_in1_s {p o : Nat → Nat} {ok : Nat → Bool} {a k : Nat} {s : Nat × Int32 × Int32} : z_in1 p o a s (z_fd p ok (k + 1)) = (if ok k = true ∧ (z_in1 p o a s (z_fd p ok k)).1 + p a < p k then (p k - p a, nI (o a), nI (o k)) else z_in1 p o a s (z_fd p ok k)) := by
  by_cases hok : ok k = true
  · cases e : z_fd p ok k with
    | none =>
      have hf : z_fd p ok (k + 1) = some k := by rw [z_fd, if_pos hok, e]
      rw [hf]
      by_cases h : s.1 + p a < p k
      · rw [z_in1_p h]; exact (if_pos ⟨hok, h⟩).symm
      · rw [z_in1_q h]; exact (if_neg (fun z => h z.2)).symm
    | some x =>
      by_cases h2 : p x < p k
      · have hf : z_fd p ok (k + 1) = some k := by
          rw [z_fd, if_pos hok, e]
          exact if_pos h2
        rw [hf]
        by_cases h1 : s.1 + p a < p x
        · rw [z_in1_p h1, z_in1_p (show s.1 + p a < p k by omega)]
          exact (if_pos ⟨hok, show p x - p a + p a < p k by omega⟩).symm
        · rw [z_in1_q h1]
          by_cases h3 : s.1 + p a < p k
          · rw [z_in1_p h3]; exact (if_pos ⟨hok, h3⟩).symm
          · rw [z_in1_q h3]; exact (if_neg (fun z => h3 z.2)).symm
      · have hf : z_fd p ok (k + 1) = some x := by
          rw [z_fd, if_pos hok, e]
          exact if_neg h2
        rw [hf]
        by_cases h1 : s.1 + p a < p x
        · rw [z_in1_p h1]
          exact (if_neg (fun z => h2 (by have z2 : p x - p a + p a < p k := z.2; omega))).symm
        · rw [z_in1_q h1]
          exact (if_neg (fun z => h2 (by have z2 : s.1 + p a < p k := z.2; omega))).symm
  · have hf : z_fd p ok (k + 1) = z_fd p ok k := by rw [z_fd, if_neg hok]
    rw [hf]
    exact (if_neg (fun z => hok z.1)).symm
def z_swap (L : ZL) (d : ZC) (v : Int32) : Int32 :=
  if v = 0 then nI (z_swp (l_n L) (l_w L) (l_p L) (z_o 60 L.2.1 L.2.2.1 (l_n L)) L.2.2.2.1 d.2.2.2.2.1 d.2.2.2.2.2.2 (l_n L)).1 else if v = 1 then (z_swp (l_n L) (l_w L) (l_p L) (z_o 60 L.2.1 L.2.2.1 (l_n L)) L.2.2.2.1 d.2.2.2.2.1 d.2.2.2.2.2.2 (l_n L)).2.1 else if v = 2 then (z_swp (l_n L) (l_w L) (l_p L) (z_o 60 L.2.1 L.2.2.1 (l_n L)) L.2.2.2.1 d.2.2.2.2.1 d.2.2.2.2.2.2 (l_n L)).2.2 else -1
theorem s6_bestInsteadOf {n : Nat} {w p : Nat → Nat} {R bw bb a : Nat} {t_core_ranked_weights t_core_ranked_profits : Nat → Int32} {post : Int32 → Prop} (hb : y_bd n w p) (hwp : x_wp n w p t_core_ranked_weights t_core_ranked_profits) (hR : R < 2 ^ 31) (hbw : bw ≤ R) (hbb : bb < 2 ^ 60) (ha : a < n) (hk : post (z_oi (z_fd p (z_may w R bw bb a) n))) :
    wX6_bestInsteadOf (nI bw) (lN bb) (nI n) (nI R) t_core_ranked_weights t_core_ranked_profits post (nI a) := by
  have hn := hb.1
  have la := hb.lt ha
  have main : ∀ (r k : Nat), k + r = n → wX6_bestInsteadOf_37 (nI bw) (lN bb) (nI n) (nI R) t_core_ranked_weights t_core_ranked_profits post (r + 1) (lN (R - bw + w a)) (z_oi (z_fd p (z_may w R bw bb a) k)) (nI k) := by
    intro r
    induction r with
    | zero =>
      intro k hkr
      rw [wX6_bestInsteadOf_37]
      unfold wX6_bestInsteadOf_37_b
      have e : k = n := by omega
      subst e
      exact ⟨fun _ => hk, fun h => absurd (Int32.le_refl _) h⟩
    | succ r ih =>
      intro k hkr
      have hkn : k < n := by omega
      obtain ⟨e1, e2⟩ := hwp k hkn
      have lk := hb.lt hkn
      have hih := ih (k + 1) (by omega)
      rw [z_fd] at hih
      rw [wX6_bestInsteadOf_37]
      unfold wX6_bestInsteadOf_37_b
      rw [nI_leI (by omega) (by omega)]
      refine ⟨fun h => by omega, fun _ => ?_⟩
      refine s0_bestHas (by omega) hn hkn (fun g => ?_) (fun g => ?_)
      · unfold wX6_bestInsteadOf_55 wX6_bestInsteadOf_98
        have hm : ¬ z_may w R bw bb a k = true := by unfold z_may; rw [g, Bool.not_true, Bool.false_and]; decide
        rw [if_neg hm] at hih
        rw [nI_1]
        exact ⟨fun z => absurd z (by decide), fun _ => hih⟩
      · unfold wX6_bestInsteadOf_55 wX6_bestInsteadOf_94 wX6_bestInsteadOf_98
        rw [nI_1, nI_clamp (show k < 2 ^ 31 by omega), e1, e2, nI_l lk.1, pk_lLT (by omega) (by omega)]
        refine ⟨fun _ => ⟨vp_in_nI (by omega) (by omega), fun q => ?_, fun q => ?_⟩, fun z => absurd rfl z⟩
        · have hm : ¬ z_may w R bw bb a k = true := by unfold z_may; rw [decide_eq_false (by omega), Bool.and_false]; decide
          rw [if_neg hm] at hih
          exact hih
        · have hm : z_may w R bw bb a k = true := by unfold z_may; rw [g, decide_eq_true (by omega)]; rfl
          rw [if_pos hm] at hih
          cases e : z_fd p (z_may w R bw bb a) k with
          | none =>
            rw [e] at hih
            exact ⟨fun _ => hih, fun z => absurd rfl z⟩
          | some x =>
            have hx := z_fd_lt e
            have lx := hb.lt (show x < n by omega)
            rw [e] at hih
            simp only at hih
            simp only [z_oi]
            rw [nI_clamp (show x < 2 ^ 31 by omega), (hwp x (by omega)).2, nI_leI (by omega) (by omega)]
            refine ⟨fun z => absurd z (z_n1 (by omega)), fun _ => ⟨vp_in_nI (by omega) (by omega), vp_in_nI (by omega) (by omega), fun z => ?_, fun z => ?_⟩⟩
            · rw [if_neg (by omega)] at hih; exact hih
            · rw [if_pos (by omega)] at hih; exact hih
  unfold wX6_bestInsteadOf
  rw [nI_clamp (by omega), (hwp a ha).1, nI_l hR, nI_l (by omega), nI_l la.1, lN_sub hbw, lN_add]
  exact ⟨vp_in_nI (by omega) (by omega), n + 1, main n 0 (by omega)⟩
theorem z_012 {v : Int32} (h0 : ¬ v < 0) (h2 : v ≤ 2) (a : ¬ v = 0) (b : ¬ v = 1) : v = 2 := by
  rw [Int32.lt_iff_toInt_lt] at h0
  rw [Int32.le_iff_toInt_le] at h2
  have h0' : ¬ v.toInt < 0 := h0
  have h2' : v.toInt ≤ 2 := h2
  rw [← Int32.toInt_inj] at a b ⊢
  have a' : ¬ v.toInt = 0 := a
  have b' : ¬ v.toInt = 1 := b
  show v.toInt = 2
  omega
theorem s6_swap {L : ZL} {d : ZC} {t_now_load_items t_core_bestWeight : Int32} {t_core_bestBits : Int64} {t_core_ranked_items t_core_ranked_room : Int32} {t_core_ranked_weights t_core_ranked_profits t_core_ranked_itemAt : Nat → Int32} {post : Int32 → Prop} {v1 : Int32} {t_now_load_room t_now_load_most t_now_load_steps t_core_most t_core_from t_core_to t_core_steps t_core_bestProfit t_core_ranked_breakPlace t_core_ranked_breakWeight t_core_ranked_breakProfit t_core_sets_size : Int32} {t_now_load_weights t_now_load_profits t_core_ranked_placeOf t_core_sets_weights t_core_sets_profits : Nat → Int32} {t_core_sets_bits : Nat → Int64} (hl : l_lim L) (hx : x_L L t_now_load_items t_now_load_room t_now_load_most t_now_load_steps t_now_load_weights t_now_load_profits) (ha : l_at L d) (hd : l_core L d t_core_most t_core_from t_core_to t_core_steps t_core_bestWeight t_core_bestProfit t_core_bestBits t_core_ranked_items t_core_ranked_room t_core_ranked_breakPlace t_core_ranked_breakWeight t_core_ranked_breakProfit t_core_sets_size t_core_ranked_itemAt t_core_ranked_placeOf t_core_ranked_weights t_core_ranked_profits t_core_sets_weights t_core_sets_profits t_core_sets_bits) (hk : post (z_swap L d v1)) : wX6_swap t_now_load_items t_core_bestWeight t_core_bestBits t_core_ranked_items t_core_ranked_room t_core_ranked_weights t_core_ranked_profits t_core_ranked_itemAt post v1 := by
  obtain ⟨hok, hK⟩ := ha.ok hl
  have hbd : y_bd (l_n L) (l_w L) (l_p L) := z_lim_bd hl 60
  have hcl : l_n L = z_c 60 L.1 := rfl
  have hckl : l_bk L = z_bk (z_w 60 L.2.1 L.2.2.1 L.1) L.2.2.2.1 (z_c 60 L.1) 0 := rfl
  have hcn := z_c60 hl.1
  obtain ⟨l1, l2, l3, l4, l5, l6, l7⟩ := id hl
  obtain ⟨rfl, rfl, rfl, rfl, hA⟩ := hx
  obtain ⟨rfl, rfl, rfl, rfl, rfl, rfl, rfl, rfl, rfl, rfl, rfl, rfl, rfl, harr, hset⟩ := hd
  have hbest := z_in_lt hbd (Nat.le_refl _) hok.2.2.2.2.1
  have hwp : x_wp (l_n L) (l_w L) (l_p L) t_core_ranked_weights t_core_ranked_profits := harr.2.2
  have hcn' : l_n L = L.1 := z_c60 hl.1
  have hbR := hok.2.2.2.2.2
  have hpl : ∀ x, x < l_n L → l_p L x < 2 ^ 31 := fun x hx => (hbd.lt hx).2
  have hlt := fun a => z_swp_lt (n := l_n L) (w := l_w L) (p := l_p L) (o := z_o 60 L.2.1 L.2.2.1 (l_n L)) (R := L.2.2.2.1) (bw := d.2.2.2.2.1) (bb := d.2.2.2.2.2.2) hpl (a := a)
  unfold z_swap at hk
  have out : ¬ (¬ v1 < 0 ∧ v1 ≤ 2) → post (-1) := fun g => by
    have q : ∀ m : Nat, m ≤ 2 → ¬ v1 = nI m := fun m hm e => g (by
      subst e
      exact ⟨nI_nlt (b := 0) (Nat.zero_le _) (by omega), (nI_leI (b := 2) (by omega) (by omega)).mpr hm⟩)
    have q0 : ¬ v1 = 0 := q 0 (by omega)
    have q1 : ¬ v1 = 1 := q 1 (by omega)
    have q2 : ¬ v1 = 2 := q 2 (by omega)
    rw [if_neg q0, if_neg q1, if_neg q2] at hk
    exact hk
  unfold wX6_swap
  refine ⟨fun h => out (fun z => z.1 h), fun h => ⟨fun h2 => ⟨L.1 + 1, ?_⟩, fun h2 => out (fun z => h2 z.2)⟩⟩
  have main : ∀ (r a : Nat), a + r = L.1 → wX6_swap_21 (nI L.1) (nI d.2.2.2.2.1) (lN d.2.2.2.2.2.2) (nI (l_n L)) (nI L.2.2.2.1) t_core_ranked_weights t_core_ranked_profits t_core_ranked_itemAt post (r + 1) v1 (nI (z_swp (l_n L) (l_w L) (l_p L) (z_o 60 L.2.1 L.2.2.1 (l_n L)) L.2.2.2.1 d.2.2.2.2.1 d.2.2.2.2.2.2 a).1) (z_swp (l_n L) (l_w L) (l_p L) (z_o 60 L.2.1 L.2.2.1 (l_n L)) L.2.2.2.1 d.2.2.2.2.1 d.2.2.2.2.2.2 a).2.1 (z_swp (l_n L) (l_w L) (l_p L) (z_o 60 L.2.1 L.2.2.1 (l_n L)) L.2.2.2.1 d.2.2.2.2.1 d.2.2.2.2.2.2 a).2.2 (nI a) := by
    intro r
    induction r with
    | zero =>
      intro a har
      rw [wX6_swap_21]
      unfold wX6_swap_21_b
      have e : a = l_n L := by omega
      subst e
      rw [nI_leI (by omega) (by omega)]
      refine ⟨fun _ => ⟨fun q0 => ?_, fun q0 => ⟨fun q1 => ?_, fun q1 => ?_⟩⟩, fun g => by omega⟩
      · rw [if_pos q0] at hk; exact hk
      · rw [if_neg q0, if_pos q1] at hk; exact hk
      · rw [if_neg q0, if_neg q1, if_pos (z_012 h h2 q0 q1)] at hk; exact hk
    | succ r ih =>
      intro a har
      have han : a < l_n L := by omega
      have hih := ih (a + 1) (by omega)
      have hla := hlt a
      have lpa := hpl a (by omega)
      rw [z_swp] at hih
      rw [wX6_swap_21]
      unfold wX6_swap_21_b
      rw [nI_leI (by omega) (by omega)]
      refine ⟨fun g => by omega, fun _ => ?_⟩
      refine s0_bestHas (by omega) (by omega) han (fun g => ?_) (fun g => ?_)
      · rw [if_pos g] at hih
        unfold wX6_swap_45
        refine ⟨fun z => absurd z (by decide), fun _ => ?_⟩
        refine s6_bestInsteadOf hbd harr.2.2 (by omega) hbR (by omega) han ?_
        unfold wX6_swap_54 wX6_swap_58 wX6_swap_154
        rw [nI_1]
        cases e : z_fd (l_p L) (z_may (l_w L) L.2.2.2.1 d.2.2.2.2.1 d.2.2.2.2.2.2 a) (l_n L) with
        | none =>
          rw [show z_fd (l_p L) (z_may (l_w L) L.2.2.2.1 d.2.2.2.2.1 d.2.2.2.2.2.2 a) (l_n L) = none from e] at hih
          exact ⟨fun _ => hih, fun z => absurd rfl z⟩
        | some x =>
          have hx := z_fd_lt e
          have lx := hpl x hx
          rw [show z_fd (l_p L) (z_may (l_w L) L.2.2.2.1 d.2.2.2.2.1 d.2.2.2.2.2.2 a) (l_n L) = some x from e] at hih
          simp only [z_in1] at hih
          simp only [z_oi]
          have hle : nI (l_p L x) - nI (l_p L a) ≤ nI (z_swp (l_n L) (l_w L) (l_p L) (z_o 60 L.2.1 L.2.2.1 (l_n L)) L.2.2.2.1 d.2.2.2.2.1 d.2.2.2.2.2.2 a).1 ↔ ¬ (z_swp (l_n L) (l_w L) (l_p L) (z_o 60 L.2.1 L.2.2.1 (l_n L)) L.2.2.2.1 d.2.2.2.2.1 d.2.2.2.2.2.2 a).1 + l_p L a < l_p L x := by
            have e3 : (nI (l_p L x) - nI (l_p L a)).toInt = (l_p L x : Int) - (l_p L a : Int) := by
              rw [Jvm.Kit.i32_sub, nI_toInt lx, nI_toInt lpa] <;> rw [nI_toInt lx, nI_toInt lpa] <;> omega
            rw [Int32.le_iff_toInt_le, e3, nI_toInt hla]
            omega
          rw [nI_clamp (show x < 2 ^ 31 by omega), nI_clamp (show a < 2 ^ 31 by omega), (hwp x hx).2, (hwp a han).2, harr.1 x hx, harr.1 a han, hle]
          refine ⟨fun z => absurd z (z_n1 (by omega)), fun _ => ⟨vp_in_nI (by omega) (by omega), vp_in_nI (by omega) (by omega), fun z => ?_, fun z => ⟨vp_in_nI (by omega) (by omega), vp_in_nI (by omega) (by omega), vp_in_nI (by omega) (by omega), vp_in_nI (by omega) (by omega), ?_⟩⟩⟩
          · rw [if_neg z] at hih; exact hih
          · have z' := Decidable.of_not_not z
            rw [if_pos z'] at hih
            rw [nI_sub (show l_p L a ≤ l_p L x by omega)]
            exact hih
      · rw [if_neg (by rw [g]; decide)] at hih
        unfold wX6_swap_45 wX6_swap_58 wX6_swap_154
        rw [nI_1]
        exact ⟨fun _ => ⟨fun _ => hih, fun z => absurd rfl z⟩, fun z => absurd rfl z⟩
  exact main L.1 0 (by omega)
theorem s7_swap {L : ZL} {d : ZC} {t_all : Nat → Int32} {post : Int32 → Int32 → Int32 → Int64 → Int32 → Int64 → Int64 → Int32 → Int32 → Int32 → Int32 → Int64 → Int64 → Int64 → Int32 → (Nat → Int32) → (Nat → Int32) → (Nat → Int64) → (Nat → Int64) → (Nat → Int64) → (Nat → Int64) → (Nat → Int64) → (Nat → Int64) → (Nat → Int64) → (Nat → Int64) → Prop} {t_raised t_many : Int32} {t_room : Int64} {t_breakAt : Int32} {t_breakWeight t_breakProfit : Int64} {t_from t_to t_made t_sets : Int32} {t_bestBits t_bestWeight t_bestProfit : Int64} {t_nexts : Int32} {t_orderOf t_placeOf : Nat → Int32} {t_w t_p t_setBits t_setWeight t_setProfit t_nextProfit t_nextWeight t_nextBits : Nat → Int64} {v1 : Int32} (hl : l_lim L) (hL : y_L L t_all) (ha : l_at L d) (hk : ∀ (r t_raised' t_many' : Int32) (t_room' : Int64) (t_breakAt' : Int32) (t_breakWeight' t_breakProfit' : Int64) (t_from' t_to' t_made' t_sets' : Int32) (t_bestBits' t_bestWeight' t_bestProfit' : Int64) (t_nexts' : Int32) (t_orderOf' t_placeOf' : Nat → Int32) (t_w' t_p' t_setBits' t_setWeight' t_setProfit' t_nextProfit' t_nextWeight' t_nextBits' : Nat → Int64), r = z_swap L d v1 → t_raised' = 0 → post r t_raised' t_many' t_room' t_breakAt' t_breakWeight' t_breakProfit' t_from' t_to' t_made' t_sets' t_bestBits' t_bestWeight' t_bestProfit' t_nexts' t_orderOf' t_placeOf' t_w' t_p' t_setBits' t_setWeight' t_setProfit' t_nextProfit' t_nextWeight' t_nextBits') : wX7_swap t_all post t_raised t_many t_room t_breakAt t_breakWeight t_breakProfit t_from t_to t_made t_sets t_bestBits t_bestWeight t_bestProfit t_nexts t_orderOf t_placeOf t_w t_p t_setBits t_setWeight t_setProfit t_nextProfit t_nextWeight t_nextBits v1 := by
  have hlo := hL.ld hl
  obtain ⟨hok, hK⟩ := ha.ok hl
  have hbd : y_bd (l_n L) (l_w L) (l_p L) := z_lim_bd hl 60
  have hcl : l_n L = z_c 60 L.1 := rfl
  have hckl : l_bk L = z_bk (z_w 60 L.2.1 L.2.2.1 L.1) L.2.2.2.1 (z_c 60 L.1) 0 := rfl
  have hn := hbd.1
  have hR := hl.2.2.2.2.1
  have hbest := z_in_lt hbd (Nat.le_refl _) hok.2.2.2.2.1
  have hbR := hok.2.2.2.2.2
  have hpl : ∀ x, x < l_n L → l_p L x < 2 ^ 31 := fun x hx => (hbd.lt hx).2
  have hlt := fun a => z_swp_lt (n := l_n L) (w := l_w L) (p := l_p L) (o := z_o 60 L.2.1 L.2.2.1 (l_n L)) (R := L.2.2.2.1) (bw := d.2.2.2.2.1) (bb := d.2.2.2.2.2.2) hpl (a := a)
  unfold z_swap at hk
  unfold wX7_swap
  refine s7_inI (a := 0) (b := 2) (by omega) (by omega) (fun m e _ hm => ?_) (fun h => ?_)
  · unfold wX7_swap_14
    refine ⟨fun z => absurd z (by decide), fun _ => ?_⟩
    refine s7_lays hlo ha (fun nx orderOf placeOf tw tp sb sw sp np nw nb harr hy => ?_)
    unfold wX7_swap_23
    refine ⟨l_n L + 1, ?_⟩
    generalize nI (z_bk (z_w 60 L.2.1 L.2.2.1 L.1) L.2.2.2.1 (z_c 60 L.1) 0) = y1
    generalize lN (z_sm (z_w 60 L.2.1 L.2.2.1 L.1) (z_bk (z_w 60 L.2.1 L.2.2.1 L.1) L.2.2.2.1 (z_c 60 L.1) 0)) = y2
    generalize lN (z_sm (z_p 60 L.2.1 L.2.2.1 L.1) (z_bk (z_w 60 L.2.1 L.2.2.1 L.1) L.2.2.2.1 (z_c 60 L.1) 0)) = y3
    generalize nI d.1 = y4
    generalize y_to d.2.1 = y5
    generalize nI d.2.2.1 = y6
    generalize nI d.2.2.2.1.length = y7
    generalize lN d.2.2.2.2.2.1 = y10
    have ho : ∀ j, j < l_n L → orderOf j = nI (z_o 60 L.2.1 L.2.2.1 (l_n L) j) := fun j hj => by
      have h9 : z_o 60 L.2.1 L.2.2.1 (l_n L) j < l_n L := z_ord_lt hj
      have h8 : z_o 60 L.2.1 L.2.2.1 (z_c 60 L.1) j < 60 := Nat.lt_of_lt_of_le h9 hn
      have := harr.1 j hj
      rw [z_u60 h8] at this
      exact this
    have main : ∀ (r a : Nat), a + r = l_n L → wX7_swap_34 t_all post (r + 1) 0 (nI (l_n L)) (lN L.2.2.2.1) y1 y2 y3 y4 y5 y6 y7 (lN d.2.2.2.2.2.2) (lN d.2.2.2.2.1) y10 nx orderOf placeOf tw tp sb sw sp np nw nb v1 (lN (z_swp (l_n L) (l_w L) (l_p L) (z_o 60 L.2.1 L.2.2.1 (l_n L)) L.2.2.2.1 d.2.2.2.2.1 d.2.2.2.2.2.2 a).1) (z_swp (l_n L) (l_w L) (l_p L) (z_o 60 L.2.1 L.2.2.1 (l_n L)) L.2.2.2.1 d.2.2.2.2.1 d.2.2.2.2.2.2 a).2.1 (z_swp (l_n L) (l_w L) (l_p L) (z_o 60 L.2.1 L.2.2.1 (l_n L)) L.2.2.2.1 d.2.2.2.2.1 d.2.2.2.2.2.2 a).2.2 (nI a) := by
      intro r
      induction r with
      | zero =>
        intro a har
        rw [wX7_swap_34]
        unfold wX7_swap_34_b
        have e2 : a = l_n L := by omega
        subst e2
        refine ⟨fun _ => ⟨fun h0 => ?_, fun h0 => ⟨fun h1 => ?_, fun h1 => ?_⟩⟩, fun h => absurd (Int32.le_refl _) h⟩
        · rw [if_pos h0] at hk; rw [lN_i]; exact hk _ _ _ _ _ _ _ _ _ _ _ _ _ _ _ _ _ _ _ _ _ _ _ _ _ rfl rfl
        · rw [if_neg h0, if_pos h1] at hk; exact hk _ _ _ _ _ _ _ _ _ _ _ _ _ _ _ _ _ _ _ _ _ _ _ _ _ rfl rfl
        · have h2 : v1 = 2 := by
            have e3 : m = 0 ∨ m = 1 ∨ m = 2 := by omega
            rcases e3 with rfl | rfl | rfl
            · exact absurd e h0
            · exact absurd e h1
            · exact e
          rw [if_neg h0, if_neg h1, if_pos h2] at hk; exact hk _ _ _ _ _ _ _ _ _ _ _ _ _ _ _ _ _ _ _ _ _ _ _ _ _ rfl rfl
      | succ r ih =>
        intro a har
        have han : a < l_n L := by omega
        have la := hbd.lt han
        obtain ⟨ea1, ea2⟩ := (show y_wp (l_n L) (l_w L) (l_p L) tw tp from harr.2.2) a han
        have hih := ih (a + 1) (by omega)
        have hs0 := hlt a
        rw [z_swp] at hih
        rw [wX7_swap_34]
        unfold wX7_swap_34_b
        rw [nI_leI (by omega) (by omega)]
        refine ⟨fun g => by omega, fun _ => ⟨l_n L + 1, ?_⟩⟩
        generalize z_swp (l_n L) (l_w L) (l_p L) (z_o 60 L.2.1 L.2.2.1 (l_n L)) L.2.2.2.1 d.2.2.2.2.1 d.2.2.2.2.2.2 a = s0 at hih hs0 ⊢
        have inner : ∀ (r2 k : Nat) (s : Nat × Int32 × Int32), k + r2 = l_n L → s = (if z_on d.2.2.2.2.2.2 a = true then z_in1 (l_p L) (z_o 60 L.2.1 L.2.2.1 (l_n L)) a s0 (z_fd (l_p L) (z_may (l_w L) L.2.2.2.1 d.2.2.2.2.1 d.2.2.2.2.2.2 a) k) else s0) →
            wX7_swap_46 t_all (wX7_swap_34 t_all post (r + 1)) post (r2 + 1) 0 (nI (l_n L)) (lN L.2.2.2.1) y1 y2 y3 y4 y5 y6 y7 (lN d.2.2.2.2.2.2) (lN d.2.2.2.2.1) y10 nx orderOf placeOf tw tp sb sw sp np nw nb v1 (lN s.1) s.2.1 s.2.2 (nI a) (nI k) := by
          intro r2
          induction r2 with
          | zero =>
            intro k s hkr hs
            have e2 : k = l_n L := by omega
            subst e2
            rw [← hs] at hih
            rw [wX7_swap_46]
            unfold wX7_swap_46_b
            rw [nI_1]
            exact ⟨fun _ => hih, fun h => absurd (Int32.le_refl _) h⟩
          | succ r2 ih2 =>
            intro k s hkr hs
            have hkn : k < l_n L := by omega
            obtain ⟨ek1, ek2⟩ := (show y_wp (l_n L) (l_w L) (l_p L) tw tp from harr.2.2) k hkn
            have lk := hbd.lt hkn
            have hih2 := ih2 (k + 1)
            have hsl : s.1 < 2 ^ 31 := by
              rw [hs]
              split
              · exact z_in1_lt hpl hs0 (fun x hx => Nat.lt_of_lt_of_le (z_fd_lt hx) (by omega))
              · exact hs0
            have skip : ¬ (z_on d.2.2.2.2.2.2 a = true ∧ z_may (l_w L) L.2.2.2.1 d.2.2.2.2.1 d.2.2.2.2.2.2 a k = true ∧ s.1 + l_p L a < l_p L k) → wX7_swap_173 t_all (wX7_swap_34 t_all post (r + 1)) (wX7_swap_46 t_all (wX7_swap_34 t_all post (r + 1)) post (r2 + 1)) post 0 (nI (l_n L)) (lN L.2.2.2.1) y1 y2 y3 y4 y5 y6 y7 (lN d.2.2.2.2.2.2) (lN d.2.2.2.2.1) y10 nx orderOf placeOf tw tp sb sw sp np nw nb v1 (lN s.1) s.2.1 s.2.2 (nI a) (nI k) := fun g => by
              unfold wX7_swap_173
              rw [nI_1]
              refine hih2 s (by omega) ?_
              rw [hs]
              by_cases ho : z_on d.2.2.2.2.2.2 a = true
              · rw [if_pos ho] at hs
                rw [if_pos ho, if_pos ho, z_in1_s, if_neg (fun z => g ⟨ho, z.1, by rw [hs]; exact z.2⟩)]
              · rw [if_neg ho, if_neg ho]
            have take : z_on d.2.2.2.2.2.2 a = true → z_may (l_w L) L.2.2.2.1 d.2.2.2.2.1 d.2.2.2.2.2.2 a k = true → wX7_swap_112 t_all (wX7_swap_34 t_all post (r + 1)) (wX7_swap_46 t_all (wX7_swap_34 t_all post (r + 1)) post (r2 + 1)) post 0 (nI (l_n L)) (lN L.2.2.2.1) y1 y2 y3 y4 y5 y6 y7 (lN d.2.2.2.2.2.2) (lN d.2.2.2.2.1) y10 nx orderOf placeOf tw tp sb sw sp np nw nb v1 (lN s.1) s.2.1 s.2.2 (nI a) (nI k) 1 := fun g1 g2 => by
              unfold wX7_swap_112
              refine ⟨fun z => absurd z (by decide), fun _ => ?_⟩
              rw [nI_clamp (show k < 2 ^ 31 by omega), nI_clamp (show a < 2 ^ 31 by omega), ek2, ea2, ho a han, ho k hkn]
              have hle : lN (l_p L k) - lN (l_p L a) ≤ lN s.1 ↔ ¬ s.1 + l_p L a < l_p L k := by
                rw [Int64.le_iff_toInt_le, l_sub_t (by omega) (by omega), pk_lT (by omega)]
                omega
              rw [hle]
              refine ⟨vp_in_nI (by omega) (by omega), vp_in_nI (by omega) (by omega), fun z => skip (fun y => z y.2.2), fun z => ⟨vp_in_nI (by omega) (by omega), vp_in_nI (by omega) (by omega), vp_in_nI (by omega) (by omega), vp_in_nI (by omega) (by omega), ?_⟩⟩
              have z' := Decidable.of_not_not z
              unfold wX7_swap_173
              rw [nI_1, lN_sub (show l_p L a ≤ l_p L k by omega)]
              refine hih2 (l_p L k - l_p L a, nI (z_o 60 L.2.1 L.2.2.1 (l_n L) a), nI (z_o 60 L.2.1 L.2.2.1 (l_n L) k)) (by omega) ?_
              rw [if_pos g1] at hs
              rw [if_pos g1, z_in1_s, if_pos ⟨g2, by rw [← hs]; exact z'⟩]
            rw [wX7_swap_46]
            unfold wX7_swap_46_b
            rw [nI_leI (by omega) (by omega)]
            refine ⟨fun g => by omega, fun _ => ?_⟩
            refine s7_isOn (by omega) (by omega) (fun g => ?_) (fun g => ?_)
            · unfold wX7_swap_64
              refine ⟨fun z => absurd z (by decide), fun _ => ?_⟩
              refine s7_isOn (by omega) (by omega) (fun g2 => ?_) (fun g2 => ?_)
              · unfold wX7_swap_76 wX7_swap_111 wX7_swap_112
                refine ⟨fun z => absurd z (by decide), fun _ => ⟨fun _ => skip (fun y => ?_), fun z => absurd rfl z⟩⟩
                have := y.2.1
                unfold z_may at this
                rw [g2, Bool.not_true, Bool.false_and] at this
                exact absurd this (by decide)
              · unfold wX7_swap_76
                have hlt2 : lN L.2.2.2.1 < (lN d.2.2.2.2.1 - lN (l_w L a)) + lN (l_w L k) ↔ ¬ d.2.2.2.2.1 + l_w L k ≤ L.2.2.2.1 + l_w L a := by
                  rw [Int64.lt_iff_toInt_lt, l_addI (l_sub_t (by omega) (by omega)) (pk_lT (by omega)) (by omega) (by omega), pk_lT (by omega)]
                  omega
                rw [nI_clamp (show k < 2 ^ 31 by omega), nI_clamp (show a < 2 ^ 31 by omega), ek1, ea1, hlt2]
                refine ⟨fun _ => ⟨vp_in_nI (by omega) (by omega), vp_in_nI (by omega) (by omega), fun q => ?_, fun q => take g ?_⟩, fun z => absurd rfl z⟩
                · unfold wX7_swap_111 wX7_swap_112
                  refine ⟨fun _ => skip (fun y => ?_), fun z => absurd rfl z⟩
                  have := y.2.1
                  unfold z_may at this
                  rw [decide_eq_false q, Bool.and_false] at this
                  exact absurd this (by decide)
                · unfold z_may
                  rw [g2, decide_eq_true (Decidable.of_not_not q)]
                  rfl
            · unfold wX7_swap_64 wX7_swap_111 wX7_swap_112
              refine ⟨fun _ => ⟨fun _ => skip (fun y => ?_), fun z => absurd rfl z⟩, fun z => absurd rfl z⟩
              rw [g] at y
              exact absurd y.1 (by decide)
        refine inner (l_n L) 0 s0 (by omega) ?_
        split
        · rfl
        · rfl
    exact main (l_n L) 0 (by omega)
  · unfold wX7_swap_14
    have q0 : ¬ v1 = 0 := fun e => h ⟨0, e, by omega, by omega⟩
    have q1 : ¬ v1 = 1 := fun e => h ⟨1, e, by omega, by omega⟩
    have q2 : ¬ v1 = 2 := fun e => h ⟨2, e, by omega, by omega⟩
    rw [if_neg q0, if_neg q1, if_neg q2] at hk
    exact ⟨fun _ => hk _ _ _ _ _ _ _ _ _ _ _ _ _ _ _ _ _ _ _ _ _ _ _ _ _ rfl rfl, fun z => absurd rfl z⟩
