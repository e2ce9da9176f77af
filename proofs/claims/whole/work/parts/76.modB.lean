/-! the reference: rows of sets -/
def z_bnd (s : ZT) : Prop := s.1 < 2 ^ 62 ∧ s.2.1 < 2 ^ 62 ∧ s.2.2 < 2 ^ 62
/-- a row of sets in three rows of longs -/
def y_set (L : List ZT) (sw sp sb : Nat → Int64) : Prop := ∀ i (h : i < L.length), sw i = lN (L[i]).1 ∧ sp i = lN (L[i]).2.1 ∧ sb i = lN (L[i]).2.2
/-- the same, the last ahead -/
def y_rev (R : List ZT) (sw sp sb : Nat → Int64) : Prop := ∀ j (h : j < R.length), sw (R.length - 1 - j) = lN (R[j]).1 ∧ sp (R.length - 1 - j) = lN (R[j]).2.1 ∧ sb (R.length - 1 - j) = lN (R[j]).2.2
theorem y_rev_0 {sw sp sb : Nat → Int64} : y_rev [] sw sp sb := fun j h => by simp at h
theorem y_rev_top {l : ZT} {R : List ZT} {sw sp sb : Nat → Int64} (h : y_rev (l :: R) sw sp sb) : sw R.length = lN l.1 ∧ sp R.length = lN l.2.1 ∧ sb R.length = lN l.2.2 := by
  have := h 0 (by simp)
  simpa using this
theorem y_rev_tl {l : ZT} {R : List ZT} {sw sp sb : Nat → Int64} (h : y_rev (l :: R) sw sp sb) : y_rev R sw sp sb := by
  intro j hj
  have := h (j + 1) (by simp; omega)
  rw [show (l :: R).length - 1 - (j + 1) = R.length - 1 - j by simp only [List.length_cons]; omega] at this
  simpa using this
theorem y_rev_put {c : ZT} {R : List ZT} {sw sp sb : Nat → Int64} (h : y_rev R sw sp sb) : y_rev (c :: R) (vp_updL sw R.length (lN c.1)) (vp_updL sp R.length (lN c.2.1)) (vp_updL sb R.length (lN c.2.2)) := by
  intro j hj
  cases j with
  | zero =>
    rw [show (c :: R).length - 1 - 0 = R.length by simp]
    rw [pk_uLs, pk_uLs, pk_uLs]
    exact ⟨rfl, rfl, rfl⟩
  | succ j =>
    simp only [List.length_cons] at hj
    rw [show (c :: R).length - 1 - (j + 1) = R.length - 1 - j by simp only [List.length_cons]; omega]
    rw [pk_uLn (by omega), pk_uLn (by omega), pk_uLn (by omega)]
    exact h j (by omega)
theorem y_rev_set {R : List ZT} {sw sp sb : Nat → Int64} (h : y_rev R sw sp sb) : y_set R.reverse sw sp sb := by
  intro i hi
  simp only [List.length_reverse] at hi
  have := h (R.length - 1 - i) (by omega)
  rw [show R.length - 1 - (R.length - 1 - i) = i by omega] at this
  rw [List.getElem_reverse]
  exact this
theorem s7_isLess {post : Int32 → Prop} {a b : Nat} (ha : a < 2 ^ 62) (hb : b < 2 ^ 62) (h1 : a < b → post 1) (h0 : b ≤ a → post 0) : wX7_isLess post (lN a) (lN b) := by
  have e : ∀ x : Nat, x < 2 ^ 62 → (lN x + (-9223372036854775808 : Int64)).toInt = (x : Int) - 9223372036854775808 := fun x hx => by
    rw [Jvm.Kit.i64_add, pk_lT (by omega)]
    · rfl
    · rw [pk_lT (by omega)]; exact (by show -2 ^ 63 ≤ (x : Int) + -9223372036854775808; omega)
    · rw [pk_lT (by omega)]; exact (by show (x : Int) + -9223372036854775808 < 2 ^ 63; omega)
  unfold wX7_isLess
  rw [Int64.le_iff_toInt_le, e a ha, e b hb]
  exact ⟨fun h => h0 (by omega), fun h => h1 (by omega)⟩
theorem s7_comes {R : List ZT} {c : ZT} {t_nextProfit t_nextWeight t_nextBits : Nat → Int64} {post : Int32 → (Nat → Int64) → (Nat → Int64) → (Nat → Int64) → Prop} (hR : y_rev R t_nextWeight t_nextProfit t_nextBits) (hl : R.length < 2002) (hB : ∀ s ∈ R, z_bnd s) (hc : z_bnd c)
    (hk : ∀ (np nw nb : Nat → Int64), y_rev (z_comes c R) nw np nb → post (nI (z_comes c R).length) np nw nb) : wX7_comes post (nI R.length) t_nextProfit t_nextWeight t_nextBits (lN c.2.2) (lN c.1) (lN c.2.1) := by
  obtain ⟨c1, c2, c3⟩ := hc
  cases R with
  | nil =>
    unfold wX7_comes wX7_comes_86 wX7_comes_113
    refine ⟨fun _ => ⟨fun _ => ?_, fun h => absurd (by decide) h⟩, fun h => absurd (by decide) h⟩
    simp only [List.length_nil]
    simp (disch := omega) only [q32, q64, nI_add, nI_ltI, nI_leI, nI_eq, nI_clamp, vp_in_nI, lN_add, lN_mul, pk_lLT, pk_lLE, pk_lEQ, nI_l, lN_i, nI_sub, nI_an, lN_sub, lN_an, Nat.add_sub_cancel, and_true, true_and]
    exact hk _ _ _ (y_rev_put (c := c) hR)
  | cons l R =>
    obtain ⟨l1, l2, l3⟩ := hB l List.mem_cons_self
    obtain ⟨t1, t2, t3⟩ := y_rev_top hR
    simp only [List.length_cons] at hl ⊢
    have put : ∀ (np nw nb : Nat → Int64) (S : List ZT), S.length < 2002 → y_rev S nw np nb → (z_comes c (l :: R) = c :: S) → wX7_comes_113 post (nI S.length) np nw nb (lN c.2.2) (lN c.1) (lN c.2.1) := by
      intro np nw nb S hS hy he
      unfold wX7_comes_113
      simp (disch := omega) only [q32, q64, nI_add, nI_ltI, nI_leI, nI_eq, nI_clamp, vp_in_nI, lN_add, lN_mul, pk_lLT, pk_lLE, pk_lEQ, nI_l, lN_i, nI_sub, nI_an, lN_sub, lN_an, Nat.add_sub_cancel, and_true, true_and]
      have := hk _ _ _ (he ▸ y_rev_put (c := c) hy)
      rw [he] at this
      exact this
    unfold wX7_comes
    simp (disch := omega) only [q32, q64, nI_add, nI_ltI, nI_leI, nI_eq, nI_clamp, vp_in_nI, lN_add, lN_mul, pk_lLT, pk_lLE, pk_lEQ, nI_l, lN_i, nI_sub, nI_an, lN_sub, lN_an, Nat.add_sub_cancel, and_true, true_and, t1, t2, t3]
    refine ⟨fun h => by omega, fun _ => ⟨fun h => ?_, fun h => ⟨fun g => ⟨fun q => ?_, fun q => ?_⟩, fun g => ?_⟩⟩⟩
    · unfold wX7_comes_86
      simp (disch := omega) only [q32, q64, nI_add, nI_ltI, nI_leI, nI_eq, nI_clamp, vp_in_nI, lN_add, lN_mul, pk_lLT, pk_lLE, pk_lEQ, nI_l, lN_i, nI_sub, nI_an, lN_sub, lN_an, Nat.add_sub_cancel, and_true, true_and, t1]
      refine ⟨fun z => by omega, fun _ => ⟨fun q => ?_, fun q => ?_⟩⟩
      · refine put _ _ _ R (by omega) (y_rev_tl hR) ?_
        simp only [z_comes]
        rw [if_neg (by omega), if_pos q]
      · refine put _ _ _ (l :: R) (by simp only [List.length_cons]; omega) hR ?_
        simp only [z_comes]
        rw [if_neg (by omega), if_neg q]
    · unfold wX7_comes_56
      refine ⟨fun z => absurd z (by decide), fun _ => ?_⟩
      simp (disch := omega) only [q32, q64, nI_add, nI_ltI, nI_leI, nI_eq, nI_clamp, vp_in_nI, lN_add, lN_mul, pk_lLT, pk_lLE, pk_lEQ, nI_l, lN_i, nI_sub, nI_an, lN_sub, lN_an, Nat.add_sub_cancel, and_true, true_and, t3]
      refine s7_isLess c3 l3 (fun z => ?_) (fun z => ?_)
      · unfold wX7_comes_74
        refine ⟨fun y => absurd y (by decide), fun _ => ?_⟩
        simp (disch := omega) only [q32, q64, nI_add, nI_ltI, nI_leI, nI_eq, nI_clamp, vp_in_nI, lN_add, lN_mul, pk_lLT, pk_lLE, pk_lEQ, nI_l, lN_i, nI_sub, nI_an, lN_sub, lN_an, Nat.add_sub_cancel, and_true, true_and]
        have he : z_comes c (l :: R) = (l.1, l.2.1, c.2.2) :: R := by
          simp only [z_comes]
          rw [if_pos (by omega), if_pos ⟨⟨by omega, by omega⟩, z⟩]
        have := hk t_nextProfit t_nextWeight (vp_updL t_nextBits R.length (lN c.2.2)) (by
          rw [he]
          intro j hj
          cases j with
          | zero =>
            rw [show (((l.1, l.2.1, c.2.2) : ZT) :: R).length - 1 - 0 = R.length by simp]
            rw [pk_uLs]
            exact ⟨t1, t2, rfl⟩
          | succ j =>
            simp only [List.length_cons] at hj
            rw [show (((l.1, l.2.1, c.2.2) : ZT) :: R).length - 1 - (j + 1) = R.length - 1 - j by simp only [List.length_cons]; omega]
            rw [pk_uLn (by omega)]
            exact y_rev_tl hR j (by omega))
        rw [he] at this
        exact this
      · unfold wX7_comes_74
        refine ⟨fun _ => ?_, fun y => absurd rfl y⟩
        have he : z_comes c (l :: R) = l :: R := by
          simp only [z_comes]
          rw [if_pos (by omega), if_neg (by omega)]
        have := hk _ _ _ (he ▸ hR)
        rw [he] at this
        exact this
    · unfold wX7_comes_55 wX7_comes_56
      refine ⟨fun _ => ?_, fun z => absurd rfl z⟩
      have he : z_comes c (l :: R) = l :: R := by
        simp only [z_comes]
        rw [if_pos (by omega), if_neg (by omega)]
      have := hk _ _ _ (he ▸ hR)
      rw [he] at this
      exact this
    · unfold wX7_comes_55 wX7_comes_56
      refine ⟨fun _ => ?_, fun z => absurd rfl z⟩
      have he : z_comes c (l :: R) = l :: R := by
        simp only [z_comes]
        rw [if_pos (by omega), if_neg (by omega)]
      have := hk _ _ _ (he ▸ hR)
      rw [he] at this
      exact this
theorem z_comes_len {c : ZT} {R : List ZT} : (z_comes c R).length ≤ R.length + 1 := by
  cases R with
  | nil => simp [z_comes]
  | cons l R =>
    simp only [z_comes]
    split
    · split <;> simp
    · split <;> simp
theorem z_comes_bnd {c : ZT} {R : List ZT} (hc : z_bnd c) (hR : ∀ s ∈ R, z_bnd s) : ∀ s ∈ z_comes c R, z_bnd s := by
  intro s hs
  cases R with
  | nil => rw [List.mem_singleton.mp hs]; exact hc
  | cons l R =>
    have hl := hR l List.mem_cons_self
    have hT : ∀ s ∈ R, z_bnd s := fun s hs => hR s (List.mem_cons_of_mem _ hs)
    simp only [z_comes] at hs
    split at hs
    · split at hs
      · rcases List.mem_cons.mp hs with rfl | h
        · exact ⟨hl.1, hl.2.1, hc.2.2⟩
        · exact hT s h
      · exact hR s hs
    · split at hs
      · rcases List.mem_cons.mp hs with rfl | h
        · exact hc
        · exact hT s h
      · rcases List.mem_cons.mp hs with rfl | h
        · exact hc
        · exact hR s h
theorem s7_doubles {L : List ZT} {sh : ZT → ZT} {t_setWeight t_setBits t_setProfit : Nat → Int64} (hL : y_set L t_setWeight t_setProfit t_setBits) (hB : ∀ s ∈ L, z_bnd s ∧ z_bnd (sh s)) (hlen : L.length ≤ 1000) {v1 v3 v5 : Int64}
    (hsh : ∀ s ∈ L, lN s.1 + v3 = lN (sh s).1 ∧ lN s.2.1 + v5 = lN (sh s).2.1 ∧ lN s.2.2 ^^^ v1 = lN (sh s).2.2) {post : Int32 → (Nat → Int64) → (Nat → Int64) → (Nat → Int64) → Prop} {t_nexts : Int32} {t_nextProfit t_nextWeight t_nextBits : Nat → Int64}
    (hk : ∀ (np nw nb : Nat → Int64), y_set (z_mm L (L.map sh) []).reverse nw np nb → post (nI (z_mm L (L.map sh) []).length) np nw nb) :
    wX7_doubles (nI L.length) t_setWeight t_setBits t_setProfit post t_nexts t_nextProfit t_nextWeight t_nextBits v1 v3 v5 := by
  have main : ∀ (r a b : Nat) (R : List ZT) (np nw nb : Nat → Int64), a ≤ L.length → b ≤ L.length → (L.length - a) + (L.length - b) = r → R.length ≤ a + b → y_rev R nw np nb → (∀ s ∈ R, z_bnd s) →
      z_mm (L.drop a) ((L.map sh).drop b) R = z_mm L (L.map sh) [] → wX7_doubles_11 (nI L.length) t_setWeight t_setBits t_setProfit post (r + 1) (nI R.length) np nw nb v1 v3 v5 (nI a) (nI b) := by
    intro r
    induction r with
    | zero =>
      intro a b R np nw nb ha hb hr hRl hR hRb hF
      rw [wX7_doubles_11]
      unfold wX7_doubles_11_b
      simp (disch := omega) only [q32, q64, nI_add, nI_ltI, nI_leI, nI_eq, nI_clamp, vp_in_nI, lN_add, lN_mul, pk_lLT, pk_lLE, pk_lEQ, nI_l, lN_i, nI_sub, nI_an, lN_sub, lN_an, Nat.add_sub_cancel, and_true, true_and]
      refine ⟨fun h => by omega, fun _ => ⟨fun _ => ?_, fun h => by omega⟩⟩
      rw [List.drop_eq_nil_of_le (by omega), List.drop_eq_nil_of_le (by rw [List.length_map]; omega), z_mm] at hF
      have := hk np nw nb (hF ▸ y_rev_set hR)
      rw [← hF] at this
      exact this
    | succ r ih =>
      intro a b R np nw nb ha hb hr hRl hR hRb hF
      have takeOld : ∀ (haL : a < L.length), z_mm (L.drop a) ((L.map sh).drop b) R = z_mm (L.drop (a + 1)) ((L.map sh).drop b) (z_comes L[a] R) →
          wX7_doubles_67 (nI L.length) t_setWeight t_setBits t_setProfit (wX7_doubles_11 (nI L.length) t_setWeight t_setBits t_setProfit post (r + 1)) post (nI R.length) np nw nb v1 v3 v5 (nI a) (nI b) := by
        intro haL he
        obtain ⟨e1, e2, e3⟩ := hL a haL
        have hbn := (hB _ (List.getElem_mem haL)).1
        unfold wX7_doubles_67 wX7_doubles_72
        refine ⟨fun h => absurd h (by decide), fun _ => ?_⟩
        simp (disch := omega) only [q32, q64, nI_add, nI_ltI, nI_leI, nI_eq, nI_clamp, vp_in_nI, lN_add, lN_mul, pk_lLT, pk_lLE, pk_lEQ, nI_l, lN_i, nI_sub, nI_an, lN_sub, lN_an, Nat.add_sub_cancel, and_true, true_and, e1, e2, e3]
        refine s7_comes hR (by omega) hRb hbn (fun np' nw' nb' hy => ?_)
        unfold wX7_doubles_104 wX7_doubles_145
        simp (disch := omega) only [q32, q64, nI_add, nI_ltI, nI_leI, nI_eq, nI_clamp, vp_in_nI, lN_add, lN_mul, pk_lLT, pk_lLE, pk_lEQ, nI_l, lN_i, nI_sub, nI_an, lN_sub, lN_an, Nat.add_sub_cancel, and_true, true_and]
        refine ih (a + 1) b _ np' nw' nb' (by omega) hb (by omega) ?_ hy (z_comes_bnd hbn hRb) (by rw [← he, hF])
        have := z_comes_len (c := L[a]) (R := R)
        omega
      have takeNew : ∀ (hbL : b < L.length), z_mm (L.drop a) ((L.map sh).drop b) R = z_mm (L.drop a) ((L.map sh).drop (b + 1)) (z_comes (sh L[b]) R) →
          wX7_doubles_71 (nI L.length) t_setWeight t_setBits t_setProfit (wX7_doubles_11 (nI L.length) t_setWeight t_setBits t_setProfit post (r + 1)) post (nI R.length) np nw nb v1 v3 v5 (nI a) (nI b) := by
        intro hbL he
        obtain ⟨e1, e2, e3⟩ := hL b hbL
        have hbn := (hB _ (List.getElem_mem hbL)).2
        obtain ⟨s1, s2, s3⟩ := hsh _ (List.getElem_mem hbL)
        unfold wX7_doubles_71 wX7_doubles_72
        refine ⟨fun _ => ?_, fun h => absurd rfl h⟩
        simp (disch := omega) only [q32, q64, nI_add, nI_ltI, nI_leI, nI_eq, nI_clamp, vp_in_nI, lN_add, lN_mul, pk_lLT, pk_lLE, pk_lEQ, nI_l, lN_i, nI_sub, nI_an, lN_sub, lN_an, Nat.add_sub_cancel, and_true, true_and, e1, e2, e3, s1, s2, s3]
        refine s7_comes hR (by omega) hRb hbn (fun np' nw' nb' hy => ?_)
        unfold wX7_doubles_142 wX7_doubles_145
        simp (disch := omega) only [q32, q64, nI_add, nI_ltI, nI_leI, nI_eq, nI_clamp, vp_in_nI, lN_add, lN_mul, pk_lLT, pk_lLE, pk_lEQ, nI_l, lN_i, nI_sub, nI_an, lN_sub, lN_an, Nat.add_sub_cancel, and_true, true_and]
        refine ih a (b + 1) _ np' nw' nb' ha (by omega) (by omega) ?_ hy (z_comes_bnd hbn hRb) (by rw [← he, hF])
        have := z_comes_len (c := sh L[b]) (R := R)
        omega
      rw [wX7_doubles_11]
      unfold wX7_doubles_11_b
      have body : wX7_doubles_29 (nI L.length) t_setWeight t_setBits t_setProfit (wX7_doubles_11 (nI L.length) t_setWeight t_setBits t_setProfit post (r + 1)) post (nI R.length) np nw nb v1 v3 v5 (nI a) (nI b) := by
        unfold wX7_doubles_29
        by_cases hbL : b < L.length
        · have db : (L.map sh).drop b = sh L[b] :: (L.map sh).drop (b + 1) := by
            rw [List.drop_eq_getElem_cons (by rw [List.length_map]; exact hbL), List.getElem_map]
          by_cases haL : a < L.length
          · have da : L.drop a = L[a] :: L.drop (a + 1) := List.drop_eq_getElem_cons haL
            obtain ⟨e1, e2, e3⟩ := hL a haL
            obtain ⟨f1, f2, f3⟩ := hL b hbL
            obtain ⟨s1, s2, s3⟩ := hsh _ (List.getElem_mem hbL)
            have ba := (hB _ (List.getElem_mem haL)).1.1
            have bb := (hB _ (List.getElem_mem hbL)).2.1
            simp (disch := omega) only [q32, q64, nI_add, nI_ltI, nI_leI, nI_eq, nI_clamp, vp_in_nI, lN_add, lN_mul, pk_lLT, pk_lLE, pk_lEQ, nI_l, lN_i, nI_sub, nI_an, lN_sub, lN_an, Nat.add_sub_cancel, and_true, true_and, e1, f1, s1]
            refine ⟨fun h => by omega, fun _ => ⟨fun h => by omega, fun _ => ⟨fun h => ?_, fun h => ?_⟩⟩⟩
            · refine takeNew hbL ?_
              rw [da, db, z_mm, if_neg (by omega)]
            · refine takeOld haL ?_
              rw [da, db, z_mm, if_pos (by omega)]
          · simp (disch := omega) only [q32, q64, nI_add, nI_ltI, nI_leI, nI_eq, nI_clamp, vp_in_nI, lN_add, lN_mul, pk_lLT, pk_lLE, pk_lEQ, nI_l, lN_i, nI_sub, nI_an, lN_sub, lN_an, Nat.add_sub_cancel, and_true, true_and]
            refine ⟨fun h => by omega, fun _ => ⟨fun _ => ?_, fun h => by omega⟩⟩
            refine takeNew hbL ?_
            rw [List.drop_eq_nil_of_le (by omega), db, z_mm]
        · simp (disch := omega) only [q32, q64, nI_add, nI_ltI, nI_leI, nI_eq, nI_clamp, vp_in_nI, lN_add, lN_mul, pk_lLT, pk_lLE, pk_lEQ, nI_l, lN_i, nI_sub, nI_an, lN_sub, lN_an, Nat.add_sub_cancel, and_true, true_and]
          refine ⟨fun _ => ?_, fun h => by omega⟩
          have haL : a < L.length := by omega
          have da : L.drop a = L[a] :: L.drop (a + 1) := List.drop_eq_getElem_cons haL
          refine takeOld haL ?_
          rw [da, List.drop_eq_nil_of_le (as := L.map sh) (by rw [List.length_map]; omega), z_mm]
      simp (disch := omega) only [q32, q64, nI_add, nI_ltI, nI_leI, nI_eq, nI_clamp, vp_in_nI, lN_add, lN_mul, pk_lLT, pk_lLE, pk_lEQ, nI_l, lN_i, nI_sub, nI_an, lN_sub, lN_an, Nat.add_sub_cancel, and_true, true_and]
      refine ⟨fun _ => body, fun h => ⟨fun g => by omega, fun _ => body⟩⟩
  unfold wX7_doubles
  exact ⟨_, main _ 0 0 [] _ _ _ (Nat.zero_le _) (Nat.zero_le _) rfl (Nat.zero_le _) y_rev_0 (fun s hs => by cases hs) rfl⟩
theorem s7_takesNexts {L : List ZT} {t_nextBits t_nextWeight t_nextProfit : Nat → Int64} (hL : y_set L t_nextWeight t_nextProfit t_nextBits) (hl : L.length ≤ 2000) {post : Int32 → (Nat → Int64) → (Nat → Int64) → (Nat → Int64) → Prop} {t_sets : Int32} {t_setBits t_setWeight t_setProfit : Nat → Int64}
    (hk : ∀ sb sw sp : Nat → Int64, y_set L sw sp sb → post (nI L.length) sb sw sp) : wX7_takesNexts (nI L.length) t_nextBits t_nextWeight t_nextProfit post t_sets t_setBits t_setWeight t_setProfit := by
  have main : ∀ (r k : Nat) (sb sw sp : Nat → Int64), k + r = L.length → (∀ i (h : i < L.length), i < k → sw i = lN (L[i]).1 ∧ sp i = lN (L[i]).2.1 ∧ sb i = lN (L[i]).2.2) →
      wX7_takesNexts_10 (nI L.length) t_nextBits t_nextWeight t_nextProfit post (r + 1) (nI L.length) sb sw sp (nI k) := by
    intro r
    induction r with
    | zero =>
      intro k sb sw sp hkr h
      rw [wX7_takesNexts_10]
      unfold wX7_takesNexts_10_b
      simp (disch := omega) only [q32, q64, nI_add, nI_ltI, nI_leI, nI_eq, nI_clamp, vp_in_nI, lN_add, lN_mul, pk_lLT, pk_lLE, pk_lEQ, nI_l, lN_i, nI_sub, nI_an, lN_sub, lN_an, Nat.add_sub_cancel, and_true, true_and]
      exact ⟨fun _ => hk _ _ _ (fun i hi => h i hi (by omega)), fun g => by omega⟩
    | succ r ih =>
      intro k sb sw sp hkr h
      rw [wX7_takesNexts_10]
      unfold wX7_takesNexts_10_b
      obtain ⟨e1, e2, e3⟩ := hL k (by omega)
      simp (disch := omega) only [q32, q64, nI_add, nI_ltI, nI_leI, nI_eq, nI_clamp, vp_in_nI, lN_add, lN_mul, pk_lLT, pk_lLE, pk_lEQ, nI_l, lN_i, nI_sub, nI_an, lN_sub, lN_an, Nat.add_sub_cancel, and_true, true_and, e1, e2, e3]
      refine ⟨fun g => by omega, fun _ => ih (k + 1) _ _ _ (by omega) (fun i hi hik => ?_)⟩
      by_cases e : i = k
      · subst e; rw [pk_uLs, pk_uLs, pk_uLs]; exact ⟨rfl, rfl, rfl⟩
      · rw [pk_uLn e, pk_uLn e, pk_uLn e]; exact h i hi (by omega)
  unfold wX7_takesNexts
  exact ⟨_, main L.length 0 _ _ _ (by omega) (fun i _ h => by omega)⟩
