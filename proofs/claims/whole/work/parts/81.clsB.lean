/-! the class: rows of sets, how they grow, the merge -/
def x_set (L : List ZT) (sw sp : Nat → Int32) (sb : Nat → Int64) : Prop := ∀ i (h : i < L.length), sw i = nI (L[i]).1 ∧ sp i = nI (L[i]).2.1 ∧ sb i = lN (L[i]).2.2
def x_rev (R : List ZT) (sw sp : Nat → Int32) (sb : Nat → Int64) : Prop := ∀ j (h : j < R.length), sw (R.length - 1 - j) = nI (R[j]).1 ∧ sp (R.length - 1 - j) = nI (R[j]).2.1 ∧ sb (R.length - 1 - j) = lN (R[j]).2.2
theorem x_rev_0 {sw sp : Nat → Int32} {sb : Nat → Int64} : x_rev [] sw sp sb := fun j h => by simp at h
theorem x_rev_top {l : ZT} {R : List ZT} {sw sp : Nat → Int32} {sb : Nat → Int64} (h : x_rev (l :: R) sw sp sb) : sw R.length = nI l.1 ∧ sp R.length = nI l.2.1 ∧ sb R.length = lN l.2.2 := by
  have := h 0 (by simp)
  simpa using this
theorem x_rev_put {c : ZT} {R : List ZT} {sw sp : Nat → Int32} {sb : Nat → Int64} (h : x_rev R sw sp sb) : x_rev (c :: R) (upd sw R.length (nI c.1)) (upd sp R.length (nI c.2.1)) (vp_updL sb R.length (lN c.2.2)) := by
  intro j hj
  cases j with
  | zero =>
    rw [show (c :: R).length - 1 - 0 = R.length by simp]
    rw [pk_us, pk_us, pk_uLs]
    exact ⟨rfl, rfl, rfl⟩
  | succ j =>
    simp only [List.length_cons] at hj
    rw [show (c :: R).length - 1 - (j + 1) = R.length - 1 - j by simp only [List.length_cons]; omega]
    rw [pk_un (by omega), pk_un (by omega), pk_uLn (by omega)]
    exact h j (by omega)
theorem x_rev_set {R : List ZT} {sw sp : Nat → Int32} {sb : Nat → Int64} (h : x_rev R sw sp sb) : x_set R.reverse sw sp sb := by
  intro i hi
  simp only [List.length_reverse] at hi
  have := h (R.length - 1 - i) (by omega)
  rw [show R.length - 1 - (R.length - 1 - i) = i by omega] at this
  rw [List.getElem_reverse]
  exact this
theorem x_rev_congr {R : List ZT} {sw sp sw' sp' : Nat → Int32} {sb sb' : Nat → Int64} (h : x_rev R sw sp sb) (e : ∀ i, i < R.length → sw' i = sw i ∧ sp' i = sp i ∧ sb' i = sb i) : x_rev R sw' sp' sb' := by
  intro j hj
  obtain ⟨e1, e2, e3⟩ := e (R.length - 1 - j) (by omega)
  rw [e1, e2, e3]
  exact h j hj
/-- how long a row is behind so many puts -/
def z_cp (c : Nat) : Nat → Nat
  | 0 => c
  | n + 1 => if n < z_cp c n then z_cp c n else 2 * z_cp c n
/-- the lengths there are -/
def z_pw (c : Nat) : Prop := c = 16 ∨ c = 32 ∨ c = 64 ∨ c = 128 ∨ c = 256 ∨ c = 512 ∨ c = 1024
theorem z_cp_le {c : Nat} (hc : 1 ≤ c) : ∀ {n : Nat}, n ≤ z_cp c n ∧ c ≤ z_cp c n
  | 0 => ⟨Nat.zero_le _, Nat.le_refl _⟩
  | n + 1 => by
    obtain ⟨h1, h2⟩ := z_cp_le hc (n := n)
    unfold z_cp
    split
    · exact ⟨by omega, h2⟩
    · exact ⟨by omega, by omega⟩
theorem z_cp_mono {c m : Nat} : ∀ {n : Nat}, m ≤ n → z_cp c m ≤ z_cp c n
  | 0, h => by cases Nat.le_zero.mp h; exact Nat.le_refl _
  | n + 1, h => by
    rcases Nat.lt_or_eq_of_le h with h1 | h1
    · have := z_cp_mono (c := c) (m := m) (n := n) (by omega)
      rw [z_cp]
      split
      · exact this
      · omega
    · rw [h1]; exact Nat.le_refl _
theorem z_cp_pw {c : Nat} (hc : z_pw c) : ∀ {n : Nat}, n ≤ 1000 → z_pw (z_cp c n)
  | 0, _ => hc
  | n + 1, h => by
    have h1 := z_cp_pw hc (n := n) (by omega)
    unfold z_cp
    split
    · exact h1
    · unfold z_pw at h1 ⊢; omega
theorem z_pw.le {c : Nat} (h : z_pw c) : 16 ≤ c ∧ c ≤ 1024 := by unfold z_pw at h; omega
theorem va_cpy_0 {α : Type} {f g : Nat → α} {n j : Nat} (h : j < n) : va_cpy f g 0 0 n j = f j := by
  unfold va_cpy
  simp [h]
theorem s4_put {R : List ZT} {c : ZT} {cap mb : Nat} {t_weights t_profits : Nat → Int32} {t_bits : Nat → Int64} (hR : x_rev R t_weights t_profits t_bits) (hl : R.length ≤ cap) (hpw : z_pw cap) (hM : R.length < 1000) {post : Int32 → (Nat → Int32) → Nat → (Nat → Int32) → Nat → (Nat → Int64) → Nat → Prop}
    (hmb : 6 * ((if R.length < cap then cap else 2 * cap) - cap) ≤ mb)
    (hk : ∀ (sw sp : Nat → Int32) (sb : Nat → Int64), x_rev (c :: R) sw sp sb → post (nI (c :: R).length) sw (if R.length < cap then cap else 2 * cap) sp (if R.length < cap then cap else 2 * cap) sb (if R.length < cap then cap else 2 * cap)) :
    wX4_put mb post (nI R.length) t_weights cap t_profits cap t_bits cap (nI c.1) (nI c.2.1) (lN c.2.2) := by
  have hcap := hpw.le
  have put : ∀ (g0 cp : Nat) (sw sp : Nat → Int32) (sb : Nat → Int64), R.length < cp → cp ≤ 2048 → x_rev R sw sp sb → cp = (if R.length < cap then cap else 2 * cap) → wX4_put_60 mb post g0 (nI R.length) sw cp sp cp sb cp (nI c.1) (nI c.2.1) (lN c.2.2) := by
    intro g0 cp sw sp sb hlt hcp hy he
    unfold wX4_put_60
    simp (disch := omega) only [q32, q64, nI_add, nI_ltI, nI_leI, nI_eq, nI_clamp, vp_in_nI, lN_add, lN_mul, pk_lLT, pk_lLE, pk_lEQ, nI_l, lN_i, nI_sub, nI_an, lN_sub, lN_an, Nat.add_sub_cancel, and_true, true_and]
    have := hk _ _ _ (x_rev_put (c := c) hy)
    rw [← he] at this
    exact this
  unfold wX4_put
  by_cases h : R.length < cap
  · have hh : nI R.length < nI cap := nI_lt h (by omega)
    refine ⟨fun _ => put 0 cap _ _ _ h (by omega) hR (by rw [if_pos h]), fun z => absurd hh z⟩
  · have hh : ¬ nI R.length < nI cap := nI_nlt (by omega) (by omega)
    rw [if_neg h] at hmb
    have e2 : (2 : Int32) * nI cap = nI (2 * cap) := nI_mul 2 cap
    have hcl : (nI (2 * cap)).toNatClampNeg = 2 * cap := nI_clamp (by omega)
    refine ⟨fun z => absurd z hh, fun _ => ?_⟩
    rw [e2, hcl]
    refine ⟨rfl, by omega, by omega, by omega, rfl, by omega, by omega, by omega, rfl, by omega, by omega, by omega, ?_⟩
    refine put _ (2 * cap) _ _ _ (by omega) (by omega) (x_rev_congr hR (fun i hi => ?_)) (by rw [if_neg h])
    rw [va_cpy_0 (by omega), va_cpy_0 (by omega), va_cpy_0 (by omega)]
    exact ⟨rfl, rfl, rfl⟩
theorem s4_isAhead {a b c : ZT} {n i j : Nat} {t_weights t_profits : Nat → Int32} {t_bits : Nat → Int64} {v3 v4 : Int32} {v5 : Int64} {post : Int32 → Prop} (hi : i < n) (hj : j < n) (hn : n ≤ 2048)
    (ea : t_weights i = nI a.1 ∧ t_profits i = nI a.2.1 ∧ t_bits i = lN a.2.2) (eb : t_weights j = nI c.1 ∧ t_profits j = nI c.2.1 ∧ t_bits j = lN c.2.2) (hs : nI c.1 + v3 = nI b.1 ∧ nI c.2.1 + v4 = nI b.2.1 ∧ lN c.2.2 + v5 = lN b.2.2)
    (ha : a.1 < 2 ^ 31 ∧ a.2.1 < 2 ^ 31 ∧ a.2.2 < 2 ^ 62) (hb : b.1 < 2 ^ 31 ∧ b.2.1 < 2 ^ 31 ∧ b.2.2 < 2 ^ 62) (h1 : z_ah a b = true → post 1) (h0 : ¬ z_ah a b = true → post 0) :
    wX4_isAhead t_weights n t_profits n t_bits n post (nI i) (nI j) v3 v4 v5 := by
  obtain ⟨a1, a2, a3⟩ := ea
  obtain ⟨b1, b2, b3⟩ := eb
  obtain ⟨s1, s2, s3⟩ := hs
  unfold wX4_isAhead
  simp (disch := omega) only [q32, q64, nI_add, nI_ltI, nI_leI, nI_eq, nI_clamp, vp_in_nI, lN_add, lN_mul, pk_lLT, pk_lLE, pk_lEQ, nI_l, lN_i, nI_sub, nI_an, lN_sub, lN_an, Nat.add_sub_cancel, and_true, true_and, a1, a2, a3, b1, b2, b3, s1, s2, s3]
  unfold z_ah at h1 h0
  refine ⟨fun g => ?_, fun g => ?_⟩
  · rw [if_pos g] at h1 h0
    refine ⟨fun q => ?_, fun q => ?_⟩
    · rw [if_pos q, decide_eq_true_iff] at h1 h0
      exact ⟨fun r => h0 (by omega), fun r => h1 (by omega)⟩
    · rw [if_neg q, decide_eq_true_iff] at h1 h0
      exact ⟨fun r => h0 (by omega), fun r => h1 (by omega)⟩
  · rw [if_neg g, decide_eq_true_iff] at h1 h0
    exact ⟨fun r => h0 (by omega), fun r => h1 (by omega)⟩
theorem z_push_cons {c : ZT} {R : List ZT} (h : ∀ l, R.head? = some l → l.2.1 < c.2.1) : z_push c R = c :: R := by
  cases R with
  | nil => rfl
  | cons l R =>
    have := h l rfl
    simp only [z_push]
    rw [if_neg (by omega)]
theorem s4_mergeOf {L : List ZT} {sh : ZT → ZT} {capL cap M mb : Nat} {p1_weights p1_profits : Nat → Int32} {p1_bits : Nat → Int64} (hL : x_set L p1_weights p1_profits p1_bits) (hlen : L.length ≤ capL) (hcL : capL ≤ 2048) (hl1 : L.length ≤ 1000) (hpw : z_pw cap) (hM : M ≤ 1000)
    (hB : ∀ s ∈ L, (s.1 < 2 ^ 31 ∧ s.2.1 < 2 ^ 31 ∧ s.2.2 < 2 ^ 62) ∧ ((sh s).1 < 2 ^ 31 ∧ (sh s).2.1 < 2 ^ 31 ∧ (sh s).2.2 < 2 ^ 62)) {v2 v3 : Int32} {v4 : Int64}
    (hsh : ∀ s ∈ L, nI s.1 + v2 = nI (sh s).1 ∧ nI s.2.1 + v3 = nI (sh s).2.1 ∧ lN s.2.2 + v4 = lN (sh s).2.2)
    (hmb : 6 * (z_cp cap (min (z_next sh L).length M) - cap) ≤ mb)
    {post : Int32 → Int32 → (Nat → Int32) → Nat → (Nat → Int32) → Nat → (Nat → Int64) → Nat → Prop} {t_size : Int32} {t_profits t_weights : Nat → Int32} {t_bits : Nat → Int64}
    (h1 : (z_next sh L).length ≤ M → ∀ (sw sp : Nat → Int32) (sb : Nat → Int64), x_set (z_next sh L) sw sp sb → post 1 (nI (z_next sh L).length) sp (z_cp cap (min (z_next sh L).length M)) sw (z_cp cap (min (z_next sh L).length M)) sb (z_cp cap (min (z_next sh L).length M)))
    (h0 : M < (z_next sh L).length → ∀ (sw sp : Nat → Int32) (sb : Nat → Int64), post 0 (nI M) sp (z_cp cap (min (z_next sh L).length M)) sw (z_cp cap (min (z_next sh L).length M)) sb (z_cp cap (min (z_next sh L).length M))) :
    wX4_mergeOf mb (nI L.length) p1_weights capL p1_profits capL p1_bits capL post t_size t_profits cap t_weights cap t_bits cap v2 v3 v4 (nI M) := by
  have hcap := hpw.le
  have main : ∀ (r k a : Nat) (R : List ZT) (sw sp : Nat → Int32) (sb : Nat → Int64), k + r = 2 * L.length → a ≤ L.length → a ≤ k → k - a ≤ L.length → x_rev R sw sp sb → (∀ s ∈ R, s.2.1 < 2 ^ 31) → R.length ≤ M →
      z_mc (L.drop a) ((L.map sh).drop (k - a)) R = z_mc L (L.map sh) [] →
      wX4_mergeOf_11 mb (nI L.length) p1_weights capL p1_profits capL p1_bits capL post (r + 1) (6 * (z_cp cap R.length - cap)) (nI R.length) sp (z_cp cap R.length) sw (z_cp cap R.length) sb (z_cp cap R.length) v2 v3 v4 (nI M) (nI a) (nI k) := by
    intro r
    induction r with
    | zero =>
      intro k a R sw sp sb hkr ha hak hkb hR hRb hRM hF
      rw [wX4_mergeOf_11]
      unfold wX4_mergeOf_11_b
      rw [show (2 : Int32) * nI L.length = nI (2 * L.length) from nI_mul 2 _]
      simp (disch := omega) only [q32, q64, nI_add, nI_ltI, nI_leI, nI_eq, nI_clamp, vp_in_nI, lN_add, lN_mul, pk_lLT, pk_lLE, pk_lEQ, nI_l, lN_i, nI_sub, nI_an, lN_sub, lN_an, Nat.add_sub_cancel, and_true, true_and]
      refine ⟨fun _ => ?_, fun h => by omega⟩
      rw [List.drop_eq_nil_of_le (by omega), List.drop_eq_nil_of_le (by rw [List.length_map]; omega), z_mc] at hF
      have hN : (z_next sh L).length = R.length := by unfold z_next; rw [← hF, List.length_reverse]
      have := h1 (by omega) sw sp sb (by unfold z_next; rw [← hF]; exact x_rev_set hR)
      rw [hN, Nat.min_eq_left hRM] at this
      exact this
    | succ r ih =>
      intro k a R sw sp sb hkr ha hak hkb hR hRb hRM hF
      have hfin : (z_next sh L).length = (z_mc L (L.map sh) []).length := by unfold z_next; rw [List.length_reverse]
      have hcpl := z_cp_le (c := cap) (by omega) (n := R.length)
      have hcpw := z_cp_pw hpw (n := R.length) (by omega)
      have hcple := hcpw.le
      -- one of them is taken
      have take : ∀ (v10 : Int32) (q f a' : Nat) (c : ZT) (hf : f < L.length), a' ≤ L.length → a' ≤ k + 1 → k + 1 - a' ≤ L.length → (c.1 < 2 ^ 31 ∧ c.2.1 < 2 ^ 31 ∧ c.2.2 < 2 ^ 62) → (v10 = 1 ∧ f = a ∧ a' = a + 1 ∧ c = L[f] ∨ v10 = 0 ∧ f = q ∧ a' = a ∧ c = sh L[f]) →
          z_mc (L.drop a) ((L.map sh).drop (k - a)) R = z_mc (L.drop a') ((L.map sh).drop (k + 1 - a')) (z_push c R) →
          wX4_mergeOf_67 mb (nI L.length) p1_weights capL p1_profits capL p1_bits capL (wX4_mergeOf_11 mb (nI L.length) p1_weights capL p1_profits capL p1_bits capL post (r + 1)) post (6 * (z_cp cap R.length - cap)) (nI R.length) sp (z_cp cap R.length) sw (z_cp cap R.length) sb (z_cp cap R.length) v2 v3 v4 (nI M) (nI a) (nI k) (nI q) v10 := by
        intro v10 q f a' c hf ha' hak' hkb' hc hv he
        obtain ⟨c1, c2, c3⟩ := hc
        obtain ⟨e1, e2, e3⟩ := hL f hf
        obtain ⟨s1, s2, s3⟩ := hsh _ (List.getElem_mem hf)
        have skip : (∃ l, R.head? = some l ∧ c.2.1 ≤ l.2.1) → wX4_mergeOf_198 mb (nI L.length) p1_weights capL p1_profits capL p1_bits capL (wX4_mergeOf_11 mb (nI L.length) p1_weights capL p1_profits capL p1_bits capL post (r + 1)) post (6 * (z_cp cap R.length - cap)) (nI R.length) sp (z_cp cap R.length) sw (z_cp cap R.length) sb (z_cp cap R.length) v2 v3 v4 (nI M) (nI a') (nI k) := by
          rintro ⟨l, hl, hle⟩
          unfold wX4_mergeOf_198
          simp (disch := omega) only [q32, q64, nI_add, nI_ltI, nI_leI, nI_eq, nI_clamp, vp_in_nI, lN_add, lN_mul, pk_lLT, pk_lLE, pk_lEQ, nI_l, lN_i, nI_sub, nI_an, lN_sub, lN_an, Nat.add_sub_cancel, and_true, true_and]
          rw [z_push_drop hl hle] at he
          exact ih (k + 1) a' R sw sp sb (by omega) ha' hak' hkb' hR hRb hRM (by rw [← he, hF])
        have put : (∀ l, R.head? = some l → l.2.1 < c.2.1) → wX4_mergeOf_144 mb (nI L.length) p1_weights capL p1_profits capL p1_bits capL (wX4_mergeOf_11 mb (nI L.length) p1_weights capL p1_profits capL p1_bits capL post (r + 1)) post (6 * (z_cp cap R.length - cap)) (nI R.length) sp (z_cp cap R.length) sw (z_cp cap R.length) sb (z_cp cap R.length) v2 v3 v4 (nI M) (nI a') (nI k) v10 (nI f) (nI c.2.1) := by
          intro hl
          rw [z_push_cons hl] at he
          have hlen2 := (z_mc_all _ (A := L.drop a') (B := (L.map sh).drop (k + 1 - a')) (R := c :: R) (Nat.le_refl _)).2.1
          rw [← he, hF, List.length_cons, ← hfin] at hlen2
          unfold wX4_mergeOf_144
          have hfinal : R.length < M → wX4_mergeOf_194 mb (nI L.length) p1_weights capL p1_profits capL p1_bits capL (wX4_mergeOf_11 mb (nI L.length) p1_weights capL p1_profits capL p1_bits capL post (r + 1)) post (6 * (z_cp cap R.length - cap)) (nI R.length) sp (z_cp cap R.length) sw (z_cp cap R.length) sb (z_cp cap R.length) v2 v3 v4 (nI M) (nI a') (nI k) (nI c.1) (nI c.2.1) (lN c.2.2) 0 := by
            intro hlt
            unfold wX4_mergeOf_194
            have hstep : z_cp cap (R.length + 1) = (if R.length < z_cp cap R.length then z_cp cap R.length else 2 * z_cp cap R.length) := rfl
            have hmono := z_cp_mono (c := cap) (m := R.length + 1) (n := min (z_next sh L).length M) (by omega)
            have hmono2 := z_cp_mono (c := cap) (m := R.length) (n := R.length + 1) (by omega)
            refine ⟨6 * (z_cp cap (R.length + 1) - z_cp cap R.length), by omega, ?_⟩
            rw [show lN c.2.2 + 0 = lN c.2.2 from Int64.add_zero _]
            refine s4_put hR hcpl.1 hcpw (by omega) (by rw [← hstep]; exact Nat.le_refl _) (fun sw' sp' sb' hy => ?_)
            rw [← hstep]
            unfold wX4_mergeOf_198
            simp (disch := omega) only [q32, q64, nI_add, nI_ltI, nI_leI, nI_eq, nI_clamp, vp_in_nI, lN_add, lN_mul, pk_lLT, pk_lLE, pk_lEQ, nI_l, lN_i, nI_sub, nI_an, lN_sub, lN_an, Nat.add_sub_cancel, and_true, true_and]
            rw [show 6 * (z_cp cap R.length - cap) + 6 * (z_cp cap (R.length + 1) - z_cp cap R.length) = 6 * (z_cp cap (c :: R).length - cap) by simp only [List.length_cons]; omega]
            refine ih (k + 1) a' (c :: R) sw' sp' sb' (by omega) ha' hak' hkb' hy (fun s hs => ?_) (by simp only [List.length_cons]; omega) (by rw [← he, hF])
            rcases List.mem_cons.mp hs with rfl | hs
            · exact c2
            · exact hRb s hs
          refine ⟨fun hlt => ?_, fun hge => ?_⟩
          · rw [nI_ltI (by omega) (by omega)] at hlt
            refine ⟨vp_in_nI (by omega) (by omega), ?_⟩
            rw [nI_clamp (by omega), e1]
            unfold wX4_mergeOf_173
            rw [nI_clamp (by omega), e3]
            rcases hv with ⟨rfl, hv⟩ | ⟨rfl, hv⟩
            · refine ⟨fun z => absurd z (by decide), fun _ => ⟨vp_in_nI (by omega) (by omega), fun z => absurd z (by decide), fun _ => ?_⟩⟩
              rw [show nI (L[f]).1 + 0 = nI (L[f]).1 from Int32.add_zero _]
              have := hfinal hlt
              rw [hv.2.2] at this ⊢
              exact this
            · refine ⟨fun _ => ⟨vp_in_nI (by omega) (by omega), fun _ => ?_, fun z => absurd rfl z⟩, fun z => absurd rfl z⟩
              have := hfinal hlt
              unfold wX4_mergeOf_194 at this ⊢
              rw [s1, s3]
              rw [hv.2.2] at this ⊢
              rw [show lN (sh L[f]).2.2 + 0 = lN (sh L[f]).2.2 from Int64.add_zero _] at this
              exact this
          · rw [nI_ltI (by omega) (by omega)] at hge
            have hRe : R.length = M := by omega
            have := h0 (by omega) sw sp sb
            rw [Nat.min_eq_right (by omega), ← hRe] at this
            exact this
        have next : wX4_mergeOf_115 mb (nI L.length) p1_weights capL p1_profits capL p1_bits capL (wX4_mergeOf_11 mb (nI L.length) p1_weights capL p1_profits capL p1_bits capL post (r + 1)) post (6 * (z_cp cap R.length - cap)) (nI R.length) sp (z_cp cap R.length) sw (z_cp cap R.length) sb (z_cp cap R.length) v2 v3 v4 (nI M) (nI k) v10 (nI f) (nI c.2.1) (nI a') 0 := by
          unfold wX4_mergeOf_115
          rw [show nI a' + 0 = nI a' from Int32.add_zero _]
          cases R with
          | nil => exact ⟨fun _ => put (fun l h => by cases h), fun z => absurd (by decide) z⟩
          | cons l R =>
            obtain ⟨t1, t2, t3⟩ := x_rev_top hR
            have hlb := hRb l List.mem_cons_self
            simp only [List.length_cons] at hcpl hcple hRM ⊢
            simp (disch := omega) only [q32, q64, nI_add, nI_ltI, nI_leI, nI_eq, nI_clamp, vp_in_nI, lN_add, lN_mul, pk_lLT, pk_lLE, pk_lEQ, nI_l, lN_i, nI_sub, nI_an, lN_sub, lN_an, Nat.add_sub_cancel, and_true, true_and, t2]
            refine ⟨fun z => by omega, fun _ => ?_⟩
            refine ⟨fun z => put (fun l' h => by cases h; exact z), fun z => skip ⟨l, rfl, by omega⟩⟩
        unfold wX4_mergeOf_67
        rcases hv with ⟨rfl, rfl, rfl, rfl⟩ | ⟨rfl, rfl, rfl, rfl⟩
        · refine ⟨fun z => absurd z (by decide), fun _ => ?_⟩
          unfold wX4_mergeOf_81
          refine ⟨vp_in_nI (by omega) (by omega), fun z => absurd z (by decide), fun _ => ?_⟩
          rw [nI_clamp (by omega), e2]
          unfold wX4_mergeOf_100
          refine ⟨fun z => absurd z (by decide), fun _ => ?_⟩
          rw [show nI (L[f]).2.1 + 0 = nI (L[f]).2.1 from Int32.add_zero _]
          unfold wX4_mergeOf_115 at next ⊢
          rw [show nI (f + 1) + 0 = nI f + 1 by rw [Int32.add_zero, nI_1]] at next
          exact next
        · refine ⟨fun _ => ?_, fun z => absurd rfl z⟩
          unfold wX4_mergeOf_81
          refine ⟨vp_in_nI (by omega) (by omega), fun _ => ?_, fun z => absurd rfl z⟩
          rw [nI_clamp (by omega), e2]
          unfold wX4_mergeOf_100
          refine ⟨fun _ => ?_, fun z => absurd rfl z⟩
          rw [s2]
          exact next
      rw [wX4_mergeOf_11]
      unfold wX4_mergeOf_11_b
      rw [show (2 : Int32) * nI L.length = nI (2 * L.length) from nI_mul 2 _]
      simp (disch := omega) only [q32, q64, nI_add, nI_ltI, nI_leI, nI_eq, nI_clamp, vp_in_nI, lN_add, lN_mul, pk_lLT, pk_lLE, pk_lEQ, nI_l, lN_i, nI_sub, nI_an, lN_sub, lN_an, Nat.add_sub_cancel, and_true, true_and]
      refine ⟨fun h => by omega, fun _ => ⟨fun h => ?_, fun h => ⟨fun g => ?_, fun g => ?_⟩⟩⟩
      · have haL : a < L.length := by omega
        have da : L.drop a = L[a] :: L.drop (a + 1) := List.drop_eq_getElem_cons haL
        unfold wX4_mergeOf_62
        refine take 1 (k - a) a (a + 1) L[a] haL (by omega) (by omega) (by omega) (hB _ (List.getElem_mem haL)).1 (Or.inl ⟨rfl, rfl, rfl, rfl⟩) ?_
        rw [da, show k + 1 - (a + 1) = k - a by omega, List.drop_eq_nil_of_le (as := L.map sh) (by rw [List.length_map]; omega), z_mc]
      · have hbL : k - a < L.length := by omega
        have db : (L.map sh).drop (k - a) = sh L[k - a] :: (L.map sh).drop (k - a + 1) := by
          rw [List.drop_eq_getElem_cons (by rw [List.length_map]; exact hbL), List.getElem_map]
        unfold wX4_mergeOf_66
        refine take 0 (k - a) (k - a) a (sh L[k - a]) hbL ha (by omega) (by omega) (hB _ (List.getElem_mem hbL)).2 (Or.inr ⟨rfl, rfl, rfl, rfl⟩) ?_
        rw [List.drop_eq_nil_of_le (as := L) (by omega), db, show k + 1 - a = k - a + 1 by omega, z_mc]
      · have hbL : k - a < L.length := by omega
        have haL : a < L.length := by omega
        have da : L.drop a = L[a] :: L.drop (a + 1) := List.drop_eq_getElem_cons haL
        have db : (L.map sh).drop (k - a) = sh L[k - a] :: (L.map sh).drop (k - a + 1) := by
          rw [List.drop_eq_getElem_cons (by rw [List.length_map]; exact hbL), List.getElem_map]
        refine s4_isAhead (a := L[a]) (c := L[k - a]) (b := sh L[k - a]) (by omega) (by omega) hcL (hL a haL) (hL (k - a) hbL) (hsh _ (List.getElem_mem hbL)) (hB _ (List.getElem_mem haL)).1 (hB _ (List.getElem_mem hbL)).2 (fun q => ?_) (fun q => ?_)
        · unfold wX4_mergeOf_59
          refine ⟨fun z => absurd z (by decide), fun _ => ?_⟩
          unfold wX4_mergeOf_62
          refine take 1 (k - a) a (a + 1) L[a] haL (by omega) (by omega) (by omega) (hB _ (List.getElem_mem haL)).1 (Or.inl ⟨rfl, rfl, rfl, rfl⟩) ?_
          rw [da, db, show k + 1 - (a + 1) = k - a by omega, db, z_mc, if_pos q]
        · unfold wX4_mergeOf_59
          refine ⟨fun _ => ?_, fun z => absurd rfl z⟩
          unfold wX4_mergeOf_66
          refine take 0 (k - a) (k - a) a (sh L[k - a]) hbL ha (by omega) (by omega) (hB _ (List.getElem_mem hbL)).2 (Or.inr ⟨rfl, rfl, rfl, rfl⟩) ?_
          rw [da, db, show k + 1 - a = k - a + 1 by omega, z_mc, if_neg q]
  unfold wX4_mergeOf
  have := main (2 * L.length) 0 0 [] t_weights t_profits t_bits (by omega) (Nat.zero_le _) (Nat.le_refl _) (by omega) x_rev_0 (fun s hs => by cases hs) (Nat.zero_le _) rfl
  rw [show 6 * (z_cp cap ([] : List ZT).length - cap) = 0 by simp [z_cp]] at this
  exact ⟨_, this⟩
