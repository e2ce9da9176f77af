/-! the reference: acts -/
theorem s7_inI {v : Int32} {a b : Nat} {post : Int32 → Prop} (ha : a < 2 ^ 31) (hb : b < 2 ^ 31) (h1 : ∀ m, v = nI m → a ≤ m → m ≤ b → post 1) (h0 : (¬ ∃ m, v = nI m ∧ a ≤ m ∧ m ≤ b) → post 0) : wX7_in post v.toInt64 (lN a) (lN b) := by
  have h := i_lt (v := v) ha hb
  refine s7_in (fun g1 g2 => ?_) (fun g => h0 (fun z => ?_))
  · obtain ⟨m, e, h2, hm⟩ := h.mp ⟨Int64.not_lt.mpr g1, Int64.not_lt.mpr g2⟩
    exact h1 m e h2 hm
  · obtain ⟨g1, g2⟩ := h.mpr z
    exact g.elim g1 g2
theorem s7_isItem {n : Nat} {t_all : Nat → Int32} {v : Int32} {post : Int32 → Prop} (hn : n ≤ 60) (ha : t_all 0 = nI n) (h1 : ∀ e, v = nI e → e < n → post 1) (h0 : (¬ ∃ e, v = nI e ∧ e < n) → post 0) : wX7_isItem t_all post v := by
  unfold wX7_isItem
  rw [show ((0 : Int32)).toNatClampNeg = 0 from rfl, ha]
  have e : (nI n - 1).toInt64.toInt = (n : Int) - 1 := by
    rw [Int32.toInt_toInt64]; exact y_to_toInt (by omega)
  refine s7_in (fun g1 g2 => ⟨rfl, ?_⟩) (fun g => ⟨rfl, h0 (fun ⟨m, z, hm⟩ => ?_)⟩)
  · rw [Int64.le_iff_toInt_le, Int32.toInt_toInt64] at g1
    rw [Int64.le_iff_toInt_le, Int32.toInt_toInt64, e] at g2
    have g1' : 0 ≤ v.toInt := g1
    refine h1 v.toInt.toNat ?_ (by omega)
    rw [← Int32.toInt_inj, nI_toInt (by omega)]
    omega
  · subst z
    rw [Int64.lt_iff_toInt_lt, Int64.lt_iff_toInt_lt, Int32.toInt_toInt64, e, nI_toInt (by omega)] at g
    have g' : (m : Int) < 0 ∨ (n : Int) - 1 < (m : Int) := g
    omega
theorem s7_sumOf {n off : Nat} {f : Nat → Nat} {t_all : Nat → Int32} {post : Int64 → Prop} (hn : n ≤ 60) (ho : off ≤ 64) (h0 : t_all 0 = nI n) (hp : ∀ k, k < n → t_all (off + k) = nI (f k)) (hs : z_sm f n < 2 ^ 31) (hk : post (lN (z_sm f n))) : wX7_sumOf t_all post (nI off) := by
  have main : ∀ (r k : Nat), k + r = n → wX7_sumOf_5 t_all post (r + 1) (nI off) (lN (z_sm f k)) (nI k) := by
    intro r
    induction r with
    | zero =>
      intro k hkr
      rw [wX7_sumOf_5]
      unfold wX7_sumOf_5_b
      have e : k = n := by omega
      subst e
      rw [show ((0 : Int32)).toNatClampNeg = 0 from rfl, h0]
      exact ⟨fun _ => hk, fun h => absurd (Int32.le_refl _) h⟩
    | succ r ih =>
      intro k hkr
      have h1 : z_sm f (k + 1) ≤ z_sm f n := z_sm_le (by omega)
      simp only [z_sm] at h1
      rw [wX7_sumOf_5]
      unfold wX7_sumOf_5_b
      rw [show ((0 : Int32)).toNatClampNeg = 0 from rfl, h0, nI_leI (by omega) (by omega), nI_add, nI_clamp (by omega), hp k (by omega), nI_l (by omega), lN_add, nI_1]
      exact ⟨fun h => by omega, fun _ => ⟨vp_in_nI (by omega) (by omega), ih (k + 1) (by omega)⟩⟩
  unfold wX7_sumOf
  exact ⟨n + 1, main n 0 (by omega)⟩
theorem s7_room {L : ZL} {H : List ZL} {post : Int32 → Int32 → Int32 → (Nat → Int32) → (Nat → Int32) → Prop} {t_raised t_undos : Int32} {t_all t_undone : Nat → Int32} {v1 : Int32} (hl : l_lim L) (hL : y_L L t_all) (hH : y_past H t_undos t_undone) (hall : ∀ M ∈ H, M.1 ≤ 60)
    (h1 : ∀ L', z_room L v1 L' → ∀ (r t_raised' t_undos' : Int32) (t_all' t_undone' : Nat → Int32), r = 1 → t_raised' = 0 → y_L L' t_all' → (∀ j, 124 ≤ j → t_all' j = t_all j) → y_past (z_keep H L) t_undos' t_undone' → post r t_raised' t_undos' t_all' t_undone')
    (h0 : (¬ ∃ L', z_room L v1 L') → post 0 0 t_undos t_all t_undone) : wX7_room post t_raised t_undos t_all t_undone v1 := by
  obtain ⟨a0, a1, a2, a3, a4⟩ := id hL
  obtain ⟨l1, l2, l3, l4, l5, l6, l7⟩ := hl
  unfold wX7_room
  refine s7_inI (a := 0) (b := 2000000000) (by omega) (by omega) (fun m e _ hm => ?_) (fun h => ?_)
  · subst e
    unfold wX7_room_14
    refine ⟨fun z => absurd z (by decide), fun _ => ?_⟩
    unfold wX7_becomes
    rw [show ((1 : Int32)).toNatClampNeg = 1 from rfl, a1, nI_eq (by omega) (by omega)]
    refine ⟨vp_in_nI (n := 1) (by omega) (by omega), fun g => ?_, fun g => ?_⟩
    · unfold wX7_room_23
      refine ⟨fun _ => h0 (fun ⟨L', m', e', hb, hne, _⟩ => ?_), fun z => absurd rfl z⟩
      rw [nI_eq (by omega) (by omega)] at e'; omega
    · refine s7_keeps l1 hL hH hall (fun u' un' hH' => ?_)
      unfold wX7_becomes_16 wX7_room_23
      rw [show ((1 : Int32)).toNatClampNeg = 1 from rfl, show ((3 : Int32)).toNatClampNeg = 3 from rfl]
      refine ⟨vp_in_nI (n := 1) (by omega) (by omega), fun z => absurd z (by decide), fun _ => ?_⟩
      refine h1 (L.1, L.2.1, L.2.2.1, m, L.2.2.2.2.1, 0) ⟨m, rfl, hm, fun z => g z.symm, rfl⟩ _ _ _ _ _ rfl rfl ⟨?_, ?_, ?_, ?_, fun k hk => ?_⟩ (fun j hj => ?_) hH'
      · rw [pk_un (by omega), pk_un (by omega)]; exact a0
      · rw [pk_un (by omega), pk_us]
      · rw [pk_un (by omega), pk_un (by omega)]; exact a2
      · rw [pk_us]; rfl
      · rw [pk_un (by omega), pk_un (by omega), pk_un (by omega), pk_un (by omega)]; exact a4 k hk
      · rw [pk_un (by omega), pk_un (by omega)]
  · unfold wX7_room_14
    exact ⟨fun _ => h0 (fun ⟨L', m', e', hm', _, _⟩ => h ⟨m', e', Nat.zero_le _, hm'⟩), fun z => absurd rfl z⟩
theorem s7_most {L : ZL} {H : List ZL} {post : Int32 → Int32 → Int32 → (Nat → Int32) → (Nat → Int32) → Prop} {t_raised t_undos : Int32} {t_all t_undone : Nat → Int32} {v1 : Int32} (hl : l_lim L) (hL : y_L L t_all) (hH : y_past H t_undos t_undone) (hall : ∀ M ∈ H, M.1 ≤ 60)
    (h1 : ∀ L', z_most L v1 L' → ∀ (r t_raised' t_undos' : Int32) (t_all' t_undone' : Nat → Int32), r = 1 → t_raised' = 0 → y_L L' t_all' → (∀ j, 124 ≤ j → t_all' j = t_all j) → y_past (z_keep H L) t_undos' t_undone' → post r t_raised' t_undos' t_all' t_undone')
    (h0 : (¬ ∃ L', z_most L v1 L') → post 0 0 t_undos t_all t_undone) : wX7_most post t_raised t_undos t_all t_undone v1 := by
  obtain ⟨a0, a1, a2, a3, a4⟩ := id hL
  obtain ⟨l1, l2, l3, l4, l5, l6, l7⟩ := hl
  unfold wX7_most
  refine s7_inI (a := 2) (b := 1000) (by omega) (by omega) (fun m e hm0 hm => ?_) (fun h => ?_)
  · subst e
    unfold wX7_most_16
    refine ⟨fun z => absurd z (by decide), fun _ => ?_⟩
    unfold wX7_becomes
    rw [show ((2 : Int32)).toNatClampNeg = 2 from rfl, a2, nI_eq (by omega) (by omega)]
    refine ⟨vp_in_nI (n := 2) (by omega) (by omega), fun g => ?_, fun g => ?_⟩
    · unfold wX7_most_25
      refine ⟨fun _ => h0 (fun ⟨L', m', e', _, hb, hne, _⟩ => ?_), fun z => absurd rfl z⟩
      rw [nI_eq (by omega) (by omega)] at e'; omega
    · refine s7_keeps l1 hL hH hall (fun u' un' hH' => ?_)
      unfold wX7_becomes_16 wX7_most_25
      rw [show ((2 : Int32)).toNatClampNeg = 2 from rfl, show ((3 : Int32)).toNatClampNeg = 3 from rfl]
      refine ⟨vp_in_nI (n := 2) (by omega) (by omega), fun z => absurd z (by decide), fun _ => ?_⟩
      refine h1 (L.1, L.2.1, L.2.2.1, L.2.2.2.1, m, 0) ⟨m, rfl, hm0, hm, fun z => g z.symm, rfl⟩ _ _ _ _ _ rfl rfl ⟨?_, ?_, ?_, ?_, fun k hk => ?_⟩ (fun j hj => ?_) hH'
      · rw [pk_un (by omega), pk_un (by omega)]; exact a0
      · rw [pk_un (by omega), pk_un (by omega)]; exact a1
      · rw [pk_un (by omega), pk_us]
      · rw [pk_us]; rfl
      · rw [pk_un (by omega), pk_un (by omega), pk_un (by omega), pk_un (by omega)]; exact a4 k hk
      · rw [pk_un (by omega), pk_un (by omega)]
  · unfold wX7_most_16
    exact ⟨fun _ => h0 (fun ⟨L', m', e', hm', hm2, _, _⟩ => h ⟨m', e', hm', hm2⟩), fun z => absurd rfl z⟩
theorem s7_add {L : ZL} {H : List ZL} {post : Int32 → Int32 → Int32 → (Nat → Int32) → (Nat → Int32) → Prop} {t_raised t_undos : Int32} {t_all t_undone : Nat → Int32} {v1 v2 : Int32} (hl : l_lim L) (hL : y_L L t_all) (hH : y_past H t_undos t_undone) (hall : ∀ M ∈ H, M.1 ≤ 60)
    (h1 : ∀ L', z_add L v1 v2 L' → ∀ (r t_raised' t_undos' : Int32) (t_all' t_undone' : Nat → Int32), r = nI L.1 → t_raised' = 0 → y_L L' t_all' → (∀ j, 124 ≤ j → t_all' j = t_all j) → y_past (z_keep H L) t_undos' t_undone' → post r t_raised' t_undos' t_all' t_undone')
    (h0 : (¬ ∃ L', z_add L v1 v2 L') → post (-1) 0 t_undos t_all t_undone) : wX7_add post t_raised t_undos t_all t_undone v1 v2 := by
  obtain ⟨a0, a1, a2, a3, a4⟩ := id hL
  obtain ⟨l1, l2, l3, l4, l5, l6, l7⟩ := id hl
  have c0 : ((0 : Int32)).toNatClampNeg = 0 := rfl
  unfold wX7_add
  refine s7_inI (a := 1) (b := 999999999) (by omega) (by omega) (fun a ea ha1 ha2 => ?_) (fun h => ?_)
  · unfold wX7_add_14
    refine ⟨fun z => absurd z (by decide), fun _ => ?_⟩
    refine s7_inI (a := 1) (b := 999999999) (by omega) (by omega) (fun b eb hb1 hb2 => ?_) (fun h => ?_)
    · subst ea
      subst eb
      have un : ∀ L', z_add L (nI a) (nI b) L' → z_sm L.2.1 L.1 + a ≤ 2147483647 ∧ z_sm L.2.2.1 L.1 + b ≤ 2147483647 ∧ L.1 < 60 := fun L' ⟨a', b', e1, e2, q1, q2, q5, q3, q4, _⟩ => by
        rw [nI_eq (by omega) (by omega)] at e1 e2
        subst e1
        subst e2
        exact ⟨q3, q4, q5⟩
      unfold wX7_add_26
      refine ⟨fun z => absurd z (by decide), fun _ => ?_⟩
      rw [c0, a0, show ((60 : Int32)) = nI 60 from rfl, nI_eq (by omega) (by omega)]
      refine ⟨fun g => h0 (fun ⟨L', z⟩ => by have := (un L' z).2.2; omega), fun g => ?_⟩
      refine s7_sumOf (off := 4) l1 (by omega) a0 (fun k hk => (a4 k hk).1) l3 ?_
      unfold wX7_add_45
      rw [nI_l (by omega), lN_add, show ((2147483647 : Int64)) = lN 2147483647 from rfl, pk_lLT (by omega) (by omega)]
      refine ⟨fun y => h0 (fun ⟨L', z⟩ => by have := (un L' z).1; omega), fun y => ?_⟩
      refine s7_sumOf (off := 64) l1 (by omega) a0 (fun k hk => (a4 k hk).2) l4 ?_
      unfold wX7_add_61
      rw [nI_l (by omega), lN_add, show ((2147483647 : Int64)) = lN 2147483647 from rfl, pk_lLE (by omega) (by omega)]
      refine ⟨fun x => ?_, fun x => h0 (fun ⟨L', z⟩ => by have := (un L' z).2.1; omega)⟩
      refine s7_keeps l1 hL hH hall (fun u' un' hH' => ?_)
      unfold wX7_add_77
      have c3 : ((3 : Int32)).toNatClampNeg = 3 := rfl
      have f4 : ((4 : Int32) + nI L.1).toNatClampNeg = 4 + L.1 := by rw [show (4 : Int32) = nI 4 from rfl, nI_add, nI_clamp (by omega)]
      have f64 : ((64 : Int32) + nI L.1).toNatClampNeg = 64 + L.1 := by rw [show (64 : Int32) = nI 64 from rfl, nI_add, nI_clamp (by omega)]
      have u1 : ∀ (f : Nat → Int32) (x : Int32), upd f (4 + L.1) x 0 = f 0 := fun f x => pk_un (by omega)
      have u2 : ∀ (f : Nat → Int32) (x : Int32), upd f (64 + L.1) x 0 = f 0 := fun f x => pk_un (by omega)
      have u3 : ∀ (f : Nat → Int32) (x : Int32), upd f 0 x 0 = x := fun f x => pk_us
      have u4 : ∀ (f : Nat → Int32) (x : Int32), upd f 3 x 0 = f 0 := fun f x => pk_un (by omega)
      have g4 : vp_in ((4 : Int32) + nI L.1) 604 := by rw [show (4 : Int32) = nI 4 from rfl, nI_add]; exact vp_in_nI (by omega) (by omega)
      have g64 : vp_in ((64 : Int32) + nI L.1) 604 := by rw [show (64 : Int32) = nI 64 from rfl, nI_add]; exact vp_in_nI (by omega) (by omega)
      simp only [c0, c3, a0, f4, u1, f64, u2, u3, u4, nI_1]
      refine ⟨g4, g64, ?_⟩
      refine h1 _ ⟨a, b, rfl, rfl, ⟨ha1, ha2⟩, ⟨hb1, hb2⟩, by omega, by omega, by omega, rfl⟩ _ _ _ _ _ (nI_sub (a := L.1 + 1) (b := 1) (by omega)) rfl ⟨?_, ?_, ?_, ?_, fun k hk => ?_⟩ (fun j hj => ?_) hH'
      · rw [u4, u3]
      · rw [pk_un (by omega), pk_un (by omega), pk_un (by omega), pk_un (by omega)]; exact a1
      · rw [pk_un (by omega), pk_un (by omega), pk_un (by omega), pk_un (by omega)]; exact a2
      · rw [pk_us]; rfl
      · have hk' : k < L.1 + 1 := hk
        show _ = nI (z_up L.2.1 L.1 a k) ∧ _ = nI (z_up L.2.2.1 L.1 b k)
        rw [pk_un (show 4 + k ≠ 3 by omega), pk_un (show 4 + k ≠ 0 by omega), pk_un (show 64 + k ≠ 3 by omega), pk_un (show 64 + k ≠ 0 by omega), pk_un (show 4 + k ≠ 64 + L.1 by omega)]
        by_cases e : k = L.1
        · subst e
          rw [pk_us, pk_us, z_up_s, z_up_s]; exact ⟨rfl, rfl⟩
        · rw [pk_un (show 4 + k ≠ 4 + L.1 by omega), pk_un (show 64 + k ≠ 64 + L.1 by omega), pk_un (show 64 + k ≠ 4 + L.1 by omega), z_up_n e, z_up_n e]
          exact a4 k (by omega)
      · rw [pk_un (by omega), pk_un (by omega), pk_un (by omega), pk_un (by omega)]
    · unfold wX7_add_26
      exact ⟨fun _ => h0 (fun ⟨L', a', b', _, e2, _, q, _⟩ => h ⟨b', e2, q⟩), fun z => absurd rfl z⟩
  · unfold wX7_add_14
    exact ⟨fun _ => h0 (fun ⟨L', a', b', e1, _, q, _⟩ => h ⟨a', e1, q⟩), fun z => absurd rfl z⟩
theorem s7_drop {L : ZL} {H : List ZL} {post : Int32 → Int32 → Int32 → (Nat → Int32) → (Nat → Int32) → Prop} {t_raised t_undos : Int32} {t_all t_undone : Nat → Int32} {v1 : Int32} (hl : l_lim L) (hL : y_L L t_all) (hH : y_past H t_undos t_undone) (hall : ∀ M ∈ H, M.1 ≤ 60)
    (h1 : ∀ L', z_drop L v1 L' → ∀ (r t_raised' t_undos' : Int32) (t_all' t_undone' : Nat → Int32), r = nI L'.1 → t_raised' = 0 → y_L L' t_all' → (∀ j, 124 ≤ j → t_all' j = t_all j) → y_past (z_keep H L) t_undos' t_undone' → post r t_raised' t_undos' t_all' t_undone')
    (h0 : (¬ ∃ L', z_drop L v1 L') → post (-1) 0 t_undos t_all t_undone) : wX7_drop post t_raised t_undos t_all t_undone v1 := by
  obtain ⟨a0, a1, a2, a3, a4⟩ := id hL
  obtain ⟨l1, l2, l3, l4, l5, l6, l7⟩ := id hl
  have c0 : ((0 : Int32)).toNatClampNeg = 0 := rfl
  have c3 : ((3 : Int32)).toNatClampNeg = 3 := rfl
  unfold wX7_drop
  refine s7_isItem l1 a0 (fun e he hlt => ?_) (fun h => ?_)
  · subst he
    unfold wX7_drop_10
    refine ⟨fun z => absurd z (by decide), fun _ => ?_⟩
    refine s7_keeps l1 hL hH hall (fun u' un' hH' => ?_)
    unfold wX7_drop_19
    have main : ∀ (r v : Nat) (g : Nat → Int32), v + r = L.1 - 1 → e ≤ v → (∀ k, k < v → g (4 + k) = t_all (4 + z_u e k) ∧ g (64 + k) = t_all (64 + z_u e k)) → (∀ k, v ≤ k → k < 60 → g (4 + k) = t_all (4 + k) ∧ g (64 + k) = t_all (64 + k)) → (∀ j, j < 4 ∨ 124 ≤ j → g j = t_all j) →
        wX7_drop_21 post (r + 1) 0 u' g un' (nI v) := by
      intro r
      induction r with
      | zero =>
        intro v g hv hev hg1 hg2 hg3
        rw [wX7_drop_21]
        unfold wX7_drop_21_b
        have e1 : nI L.1 - 1 = nI (L.1 - 1) := nI_sub (b := 1) (by omega)
        simp only [c0, c3, hg3 0 (by omega), a0, e1]
        rw [nI_leI (by omega) (by omega), pk_un (show 0 ≠ 3 by omega), pk_us]
        refine ⟨fun _ => ?_, fun h => by omega⟩
        refine h1 _ ⟨e, rfl, hlt, rfl⟩ _ _ _ _ _ rfl rfl ⟨?_, ?_, ?_, ?_, fun k hk => ?_⟩ (fun j hj => ?_) hH'
        · rw [pk_un (by omega), pk_us]
        · rw [pk_un (by omega), pk_un (by omega), hg3 1 (by omega)]; exact a1
        · rw [pk_un (by omega), pk_un (by omega), hg3 2 (by omega)]; exact a2
        · rw [pk_us]; rfl
        · have hk' : k < L.1 - 1 := hk
          have hc' : z_c e L.1 = L.1 - 1 := by unfold z_c; rw [if_pos hlt]
          rw [pk_un (by omega), pk_un (by omega), pk_un (by omega), pk_un (by omega), (hg1 k (by omega)).1, (hg1 k (by omega)).2]
          exact a4 _ (z_u_lt (by omega))
        · rw [pk_un (by omega), pk_un (by omega), hg3 j (by omega)]
      | succ r ih =>
        intro v g hv hev hg1 hg2 hg3
        rw [wX7_drop_21]
        unfold wX7_drop_21_b
        have e1 : nI L.1 - 1 = nI (L.1 - 1) := nI_sub (b := 1) (by omega)
        simp only [c0, hg3 0 (by omega), a0, e1]
        have e4 : (4 : Int32) + nI v = nI (4 + v) := nI_add 4 v
        have e64 : (64 : Int32) + nI v = nI (64 + v) := nI_add 64 v
        rw [e4, e64, nI_1, nI_1, nI_1, nI_leI (by omega) (by omega), nI_clamp (show 4 + v < 2 ^ 31 by omega), nI_clamp (show 4 + v + 1 < 2 ^ 31 by omega), nI_clamp (show 64 + v < 2 ^ 31 by omega), nI_clamp (show 64 + v + 1 < 2 ^ 31 by omega), pk_un (show 64 + v + 1 ≠ 4 + v by omega)]
        refine ⟨fun h => by omega, fun _ => ⟨vp_in_nI (by omega) (by omega), vp_in_nI (by omega) (by omega), vp_in_nI (by omega) (by omega), vp_in_nI (by omega) (by omega), ih (v + 1) _ (by omega) (by omega) (fun k hk => ?_) (fun k hk hk2 => ?_) (fun j hj => ?_)⟩⟩
        · by_cases ek : k = v
          · subst ek
            have hz : z_u e k = k + 1 := by unfold z_u; rw [if_neg (by omega)]
            rw [pk_un (show 4 + k ≠ 64 + k by omega), pk_us, pk_us, hz]
            exact ⟨(hg2 (k + 1) (by omega) (by omega)).1, (hg2 (k + 1) (by omega) (by omega)).2⟩
          · rw [pk_un (by omega), pk_un (by omega), pk_un (by omega), pk_un (by omega)]
            exact hg1 k (by omega)
        · rw [pk_un (by omega), pk_un (by omega), pk_un (by omega), pk_un (by omega)]
          exact hg2 k (by omega) hk2
        · rw [pk_un (by omega), pk_un (by omega)]
          exact hg3 j hj
    refine ⟨L.1 - 1 - e + 1, main (L.1 - 1 - e) e t_all (by omega) (Nat.le_refl _) (fun k hk => ?_) (fun k _ _ => ⟨rfl, rfl⟩) (fun j _ => rfl)⟩
    have hz : z_u e k = k := by unfold z_u; rw [if_pos hk]
    rw [hz]
    exact ⟨rfl, rfl⟩
  · unfold wX7_drop_10
    exact ⟨fun _ => h0 (fun ⟨L', e, he, hlt, _⟩ => h ⟨e, he, hlt⟩), fun z => absurd rfl z⟩
