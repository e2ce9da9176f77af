/-! the bits of floats and doubles, by the class's own way and by the library's; share, linear, part -/
theorem wc_shl (n : Nat) : nI n <<< ((23 : Int32) &&& 31) = nI (n * 2 ^ 23) := by
  rw [show ((23 : Int32) &&& 31) = nI 23 by decide +kernel]
  refine Int32.toBitVec_inj.mp ?_
  rw [Int32.toBitVec_shiftLeft]
  show BitVec.ofNat 32 n <<< ((BitVec.ofNat 32 23).smod 32) = BitVec.ofNat 32 (n * 2 ^ 23)
  rw [show (BitVec.ofNat 32 23).smod 32 = BitVec.ofNat 32 23 by decide +kernel]
  refine BitVec.eq_of_toNat_eq ?_
  rw [BitVec.shiftLeft_eq', BitVec.toNat_shiftLeft, BitVec.toNat_ofNat, BitVec.toNat_ofNat, BitVec.toNat_ofNat, Nat.mod_eq_of_lt (show 23 < 2 ^ 32 by omega), Nat.shiftLeft_eq, Nat.mul_mod, Nat.mod_mod, ← Nat.mul_mod]
theorem wc_or {a b : Nat} (ha : a < 2 ^ 32) (hb : b < 2 ^ 32) : nI a ||| nI b = nI (a ||| b) := by
  refine Int32.toBitVec_inj.mp ?_
  rw [Int32.toBitVec_or]
  show BitVec.ofNat 32 a ||| BitVec.ofNat 32 b = BitVec.ofNat 32 (a ||| b)
  refine BitVec.eq_of_toNat_eq ?_
  rw [BitVec.toNat_or, BitVec.toNat_ofNat, BitVec.toNat_ofNat, BitVec.toNat_ofNat, Nat.mod_eq_of_lt ha, Nat.mod_eq_of_lt hb, Nat.mod_eq_of_lt (Nat.or_lt_two_pow ha hb)]
theorem wc_dec {X : Nat} (h : 1 ≤ X) : nI X + (-1 : Int32) = nI (X - 1) := nI_an h

theorem s6_b64_end {E T : Nat} {post : Int64 → Prop} (hE : E ≤ 2046) (hT : T < 4503599627370496) (hk : post (lN (E * 4503599627370496 + T))) : wX6_bitsOfDouble_87 post (f64 1023 T) (lN E) := by
  obtain ⟨a1, a2, a3⟩ := f64_last hT
  unfold wX6_bitsOfDouble_87
  refine ⟨a1, a2, ?_⟩
  have o1 := Nat.two_pow_add_eq_or_of_lt (i := 52) (b := T) (by omega) E
  rw [a3, show ((52 : Int32)) = nI 52 from rfl, wb_shl E (by omega), Nat.mul_comm E, wb_or (by omega) (by omega), ← o1]
  rw [show 2 ^ 52 * E + T = E * 4503599627370496 + T by omega]
  exact hk
theorem s6_b64_up {F T : Nat} {post : Int64 → Prop} (hF : F ≤ 2046) (hT : T < 4503599627370496) (hk : post (lN (F * 4503599627370496 + T))) : ∀ (r e X j : Nat), e + r = 1023 → 1 ≤ e → X + e = F + 1023 → j + r ≤ 1022 → wX6_bitsOfDouble_55 post (r + 1) (f64 e T) (lN X) (nI j) := by
  intro r
  induction r with
  | zero =>
    intro e X j h1 h2 h3 h4
    have e1 : e = 1023 := by omega
    have e2 : X = F := by omega
    subst e1
    rw [e2]
    have hfin := s6_b64_end hF hT hk
    refine ⟨fun _ => hfin, fun _ => ⟨fun _ => hfin, fun g => absurd ((f64_ge1 (by omega) (by omega) hT).mpr (by omega)) g⟩⟩
  | succ r ih =>
    intro e X j h1 h2 h3 h4
    refine ⟨fun g => ?_, fun _ => ⟨fun g => ?_, fun _ => ?_⟩⟩
    · rw [show (1022 : Int32) = nI 1022 from rfl, nI_leI (by omega) (by omega)] at g
      omega
    · have := (f64_ge1 h2 (by omega) hT).mp g
      omega
    · rw [f64_twice h2 (by omega) hT, show (1 : Int32) = nI 1 from rfl, nI_add]
      refine ⟨f64_nn (f64_vn (by omega) (by omega) hT), ?_⟩
      rw [show (1 : Int64) = lN 1 from rfl, lN_sub (by omega)]
      exact ih (e + 1) (X - 1) (j + 1) (by omega) (by omega) (by omega) (by omega)
theorem s6_b64_dn {F T : Nat} {post : Int64 → Prop} (hF : F ≤ 2046 - 1) (hT : T < 4503599627370496) (hk : post (lN (F * 4503599627370496 + T))) : ∀ (r e k : Nat), e ≤ 1023 + r → e + k = F → k ≤ 1022 → 1 ≤ e → wX6_bitsOfDouble_18 post (r + 1) (f64 e T) (lN (1023 + k)) (nI k) := by
  intro r
  induction r with
  | zero =>
    intro e k h1 h2 h3 h4
    have hfin : wX6_bitsOfDouble_52 post (f64 e T) (lN (1023 + k)) := ⟨_, s6_b64_up (by omega) hT hk (1023 - e) e (1023 + k) 0 (by omega) h4 (by omega) (by omega)⟩
    refine ⟨fun _ => hfin, fun _ => ⟨fun _ => hfin, fun g => absurd ((f64_lt2 h4 (by omega) hT).mpr (by omega)) g⟩⟩
  | succ r ih =>
    intro e k h1 h2 h3 h4
    have hfin : e ≤ 1023 → wX6_bitsOfDouble_52 post (f64 e T) (lN (1023 + k)) := fun he => ⟨_, s6_b64_up (by omega) hT hk (1023 - e) e (1023 + k) 0 (by omega) h4 (by omega) (by omega)⟩
    refine ⟨fun g => ?_, fun g0 => ⟨fun g => ?_, fun g => ?_⟩⟩
    · rw [show (1022 : Int32) = nI 1022 from rfl, nI_leI (by omega) (by omega)] at g
      exact hfin (by omega)
    · exact hfin ((f64_lt2 h4 (by omega) hT).mp g)
    · rw [f64_lt2 h4 (by omega) hT] at g
      rw [show (1022 : Int32) = nI 1022 from rfl, nI_leI (by omega) (by omega)] at g0
      rw [f64_half (by omega) (by omega) hT]
      refine ⟨f64_nn (f64_vn (by omega) (by omega) hT), ?_⟩
      rw [show (1 : Int64) = lN 1 from rfl, lN_add]
      show wX6_bitsOfDouble_18 post (r + 1) (f64 (e - 1) T) (lN (1023 + k + 1)) (nI k + nI 1)
      rw [nI_add]
      exact ih (e - 1) (k + 1) (by omega) (by omega) (by omega) (by omega)
theorem s6_bitsOfDouble {x : UInt64} {lo hi : Int} {post : Int64 → Prop} (h : f_pz FP.Core.b64 lo hi (FP.Core.val64 x)) (h1 : (-1074) < lo) (h2 : hi ≤ 971 - 1) (hk : post x.toInt64) : wX6_bitsOfDouble post x := by
  rcases f64_of h h1 h2 with rfl | ⟨E, T, rfl, g1, g2, hT⟩
  · refine ⟨fun g => absurd g (by decide +kernel), fun _ => ?_⟩
    exact hk
  · refine ⟨fun _ => ?_, fun g => absurd (f64_pos g1 (by omega) hT) g⟩
    exact ⟨_, s6_b64_dn g2 hT hk E E 0 (by omega) rfl (by omega) g1⟩

theorem s6_b32_end {E T : Nat} {post : Int32 → Prop} (hE : E ≤ 254) (hT : T < 8388608) (hk : post (nI (E * 8388608 + T))) : wX6_bitsOfFloat_67 post (f32 127 T) (nI E) := by
  obtain ⟨a1, a2, a3⟩ := f32_last hT
  unfold wX6_bitsOfFloat_67
  refine ⟨a1, a2, ?_⟩
  have o1 := Nat.two_pow_add_eq_or_of_lt (i := 23) (b := T) (by omega) E
  rw [a3, wc_shl, Nat.mul_comm E, wc_or (by omega) (by omega), ← o1]
  rw [show 2 ^ 23 * E + T = E * 8388608 + T by omega]
  exact hk
theorem s6_b32_up {F T : Nat} {post : Int32 → Prop} (hF : F ≤ 254) (hT : T < 8388608) (hk : post (nI (F * 8388608 + T))) : ∀ (r e X j : Nat), e + r = 127 → 1 ≤ e → X + e = F + 127 → j + r ≤ 126 → wX6_bitsOfFloat_42 post (r + 1) (f32 e T) (nI X) (nI j) := by
  intro r
  induction r with
  | zero =>
    intro e X j h1 h2 h3 h4
    have e1 : e = 127 := by omega
    have e2 : X = F := by omega
    subst e1
    rw [e2]
    have hfin := s6_b32_end hF hT hk
    refine ⟨fun _ => hfin, fun _ => ⟨fun _ => hfin, fun g => absurd ((f32_ge1 (by omega) (by omega) hT).mpr (by omega)) g⟩⟩
  | succ r ih =>
    intro e X j h1 h2 h3 h4
    refine ⟨fun g => ?_, fun _ => ⟨fun g => ?_, fun _ => ?_⟩⟩
    · rw [show (126 : Int32) = nI 126 from rfl, nI_leI (by omega) (by omega)] at g
      omega
    · have := (f32_ge1 h2 (by omega) hT).mp g
      omega
    · rw [f32_twice h2 (by omega) hT, show (1 : Int32) = nI 1 from rfl, nI_add]
      refine ⟨f32_nn (f32_vn (by omega) (by omega) hT), ?_⟩
      rw [nI_an (by omega)]
      exact ih (e + 1) (X - 1) (j + 1) (by omega) (by omega) (by omega) (by omega)
theorem s6_b32_dn {F T : Nat} {post : Int32 → Prop} (hF : F ≤ 254 - 1) (hT : T < 8388608) (hk : post (nI (F * 8388608 + T))) : ∀ (r e k : Nat), e ≤ 127 + r → e + k = F → k ≤ 126 → 1 ≤ e → wX6_bitsOfFloat_15 post (r + 1) (f32 e T) (nI (127 + k)) (nI k) := by
  intro r
  induction r with
  | zero =>
    intro e k h1 h2 h3 h4
    have hfin : wX6_bitsOfFloat_40 post (f32 e T) (nI (127 + k)) := ⟨_, s6_b32_up (by omega) hT hk (127 - e) e (127 + k) 0 (by omega) h4 (by omega) (by omega)⟩
    refine ⟨fun _ => hfin, fun _ => ⟨fun _ => hfin, fun g => absurd ((f32_lt2 h4 (by omega) hT).mpr (by omega)) g⟩⟩
  | succ r ih =>
    intro e k h1 h2 h3 h4
    have hfin : e ≤ 127 → wX6_bitsOfFloat_40 post (f32 e T) (nI (127 + k)) := fun he => ⟨_, s6_b32_up (by omega) hT hk (127 - e) e (127 + k) 0 (by omega) h4 (by omega) (by omega)⟩
    refine ⟨fun g => ?_, fun g0 => ⟨fun g => ?_, fun g => ?_⟩⟩
    · rw [show (126 : Int32) = nI 126 from rfl, nI_leI (by omega) (by omega)] at g
      exact hfin (by omega)
    · exact hfin ((f32_lt2 h4 (by omega) hT).mp g)
    · rw [f32_lt2 h4 (by omega) hT] at g
      rw [show (126 : Int32) = nI 126 from rfl, nI_leI (by omega) (by omega)] at g0
      rw [f32_half (by omega) (by omega) hT]
      refine ⟨f32_nn (f32_vn (by omega) (by omega) hT), ?_⟩
      rw [show (1 : Int32) = nI 1 from rfl, nI_add]
      show wX6_bitsOfFloat_15 post (r + 1) (f32 (e - 1) T) (nI (127 + k + 1)) (nI k + nI 1)
      rw [nI_add]
      exact ih (e - 1) (k + 1) (by omega) (by omega) (by omega) (by omega)
theorem s6_bitsOfFloat {x : UInt32} {lo hi : Int} {post : Int32 → Prop} (h : f_pz FP.Core.b32 lo hi (FP.Core.val32 x)) (h1 : (-149) < lo) (h2 : hi ≤ 104 - 1) (hk : post x.toInt32) : wX6_bitsOfFloat post x := by
  rcases f32_of h h1 h2 with rfl | ⟨E, T, rfl, g1, g2, hT⟩
  · refine ⟨fun g => absurd g (by decide +kernel), fun _ => ?_⟩
    exact hk
  · refine ⟨fun _ => ?_, fun g => absurd (f32_pos g1 (by omega) hT) g⟩
    exact ⟨_, s6_b32_dn g2 hT hk E E 0 (by omega) rfl (by omega) g1⟩

theorem sJ_f2ib {x : UInt32} {post : Int32 → Prop} (hn : FP.Core.val32 x ≠ .nan) (hk : post x.toInt32) : wJxf58ca_floatToIntBits_5c35a post x := by
  have e : FP.fcmp x x = some .eq := FP.Core.fcmp_refl ((FP.Core.notNaN_iff32 x).mpr hn)
  unfold wJxf58ca_floatToIntBits_5c35a wJxf58ca_isNaN_12338
  rw [e]
  refine ⟨fun _ => ?_, fun g => absurd rfl g⟩
  exact ⟨fun _ => hk, fun g => absurd rfl g⟩
theorem sJ_d2lb {x : UInt64} {post : Int64 → Prop} (hn : FP.Core.val64 x ≠ .nan) (hk : post x.toInt64) : wJxe99ae_doubleToLongBits_ccdee post x := by
  have e : FP.dcmp x x = some .eq := FP.Core.dcmp_refl ((FP.Core.notNaN_iff x).mpr hn)
  unfold wJxe99ae_doubleToLongBits_ccdee wJxe99ae_isNaN_b9ae7
  rw [e]
  refine ⟨fun _ => ?_, fun g => absurd rfl g⟩
  exact ⟨fun _ => hk, fun g => absurd rfl g⟩
theorem f32_i2f {n : Nat} (h0 : 1 ≤ n) (hn : n < 2 ^ 31) : f_pz FP.Core.b32 (-24) 8 (FP.Core.val32 (FP.Core.i2f (nI n))) ∧ FP.Core.val32 (FP.Core.i2f (nI n)) ≠ .fin false 0 FP.Core.b32.qmin := by
  obtain ⟨c1, c2, c3, c4, c5⟩ := f32_c
  have e : FP.Core.val32 (FP.Core.i2f (nI n)) = FP.Core.roundRatio FP.Core.b32 false n 1 0 := by
    rw [FP.Core.val32_i2f, nI_toInt hn]
    show FP.Core.roundRatio FP.Core.b32 (decide ((n : Int) < 0)) n 1 0 = _
    rw [decide_eq_false (by omega)]
  obtain ⟨c, q, a1, a2, a3, a4, a5⟩ := f_rr (f := FP.Core.b32) (A := n) (B := 1) (a := 31) (b := 1) (e := 0) (lo := -24) (hi := 8) FP.Core.good_b32 h0 (by omega) hn (by omega) (by rw [c5]; omega) (by rw [c5]; omega) (by rw [c3]; omega) (by rw [c4]; omega)
  rw [e, a1]
  refine ⟨Or.inr ⟨c, q, rfl, a2, a3, a4, a5⟩, fun g => ?_⟩
  have := (FP.Core.Datum.fin.inj g).2.1
  rw [c2] at a2
  omega
theorem f64_l2d {n : Nat} (hn : n < 2 ^ 31) : f_pz FP.Core.b64 (-53) (-21) (FP.Core.val64 (FP.Core.l2d (lN n))) ∧ (1 ≤ n → FP.Core.val64 (FP.Core.l2d (lN n)) ≠ .fin false 0 FP.Core.b64.qmin) := by
  obtain ⟨c1, c2, c3, c4, c5⟩ := f64_c
  have e : FP.Core.val64 (FP.Core.l2d (lN n)) = FP.Core.roundRatio FP.Core.b64 false n 1 0 := by
    rw [FP.Core.val64_l2d, pk_lT (by omega)]
    show FP.Core.roundRatio FP.Core.b64 (decide ((n : Int) < 0)) n 1 0 = _
    rw [decide_eq_false (by omega)]
  by_cases h0 : n = 0
  · rw [e, h0, f_rr0]
    exact ⟨Or.inl rfl, fun g => by omega⟩
  · obtain ⟨c, q, a1, a2, a3, a4, a5⟩ := f_rr (f := FP.Core.b64) (A := n) (B := 1) (a := 31) (b := 1) (e := 0) (lo := -53) (hi := -21) FP.Core.good_b64 (by omega) (by omega) hn (by omega) (by rw [c5]; omega) (by rw [c5]; omega) (by rw [c3]; omega) (by rw [c4]; omega)
    rw [e, a1]
    refine ⟨Or.inr ⟨c, q, rfl, a2, a3, a4, a5⟩, fun _ g => ?_⟩
    have := (FP.Core.Datum.fin.inj g).2.1
    rw [c2] at a2
    omega
theorem f_i2d {a : Nat} (h : a < 2 ^ 31) : FP.i2d (nI a) = FP.l2d (lN a) := (FP.Core.i2d_l2d (nI a)).trans (by rw [nI_l h])
/-- share -/
def z_shr (P W : Nat) : UInt32 := FP.fdiv (FP.i2f (nI P)) (FP.i2f (nI W))
theorem z_shr_pz {P W : Nat} (h1 : 1 ≤ P) (h2 : P < 2 ^ 31) (h3 : 1 ≤ W) (h4 : W < 2 ^ 31) : f_pz FP.Core.b32 (-79) 33 (FP.Core.val32 (z_shr P W)) := by
  obtain ⟨c1, c2, c3, c4, c5⟩ := f32_c
  show f_pz _ _ _ (FP.Core.val32 (FP.Core.fdiv _ _))
  rw [FP.Core.val32_fdiv]
  exact f_pz_div FP.Core.good_b32 (f32_i2f h1 h2).1 (f32_i2f h3 h4).1 (f32_i2f h3 h4).2 (by rw [c5]; omega) (by omega) (by rw [c3]; omega) (by rw [c4]; omega)
def z_share (L : ZL) (v : Int32) (r : Int32) : Prop := (∃ i, v = nI i ∧ i < L.1 ∧ r = (z_shr (L.2.2.1 i) (L.2.1 i)).toInt32) ∨ (¬ (∃ i, v = nI i ∧ i < L.1) ∧ r = 0)
theorem z_share_un {L : ZL} {v a b : Int32} (hl : L.1 ≤ 60) (ha : z_share L v a) (hb : z_share L v b) : a = b := by
  rcases ha with ⟨i, e1, h1, r1⟩ | ⟨n1, r1⟩
  · rcases hb with ⟨j, e2, h2, r2⟩ | ⟨n2, r2⟩
    · have : i = j := (nI_eq (by omega) (by omega)).mp (e1.symm.trans e2)
      rw [r1, r2, this]
    · exact absurd ⟨i, e1, h1⟩ n2
  · rcases hb with ⟨j, e2, h2, r2⟩ | ⟨n2, r2⟩
    · exact absurd ⟨j, e2, h2⟩ n1
    · rw [r1, r2]
theorem l_lim.it {L : ZL} {i : Nat} (hl : l_lim L) (hi : i < L.1) : (1 ≤ L.2.1 i ∧ L.2.1 i < 2 ^ 31) ∧ (1 ≤ L.2.2.1 i ∧ L.2.2.1 i < 2 ^ 31) := by
  obtain ⟨l1, l2, l3, l4, l5, l6, l7⟩ := hl
  have a := l2 i hi
  have b := z_sm_1 (f := L.2.1) hi
  have c := z_sm_1 (f := L.2.2.1) hi
  exact ⟨⟨a.1, by omega⟩, ⟨a.2, by omega⟩⟩
theorem s6_share {L : ZL} {t_now_load_weights t_now_load_profits : Nat → Int32} {post : Int32 → Prop} {v1 : Int32} (hl : l_lim L) (hA : ∀ k, k < L.1 → t_now_load_weights k = nI (L.2.1 k) ∧ t_now_load_profits k = nI (L.2.2.1 k)) (hk : ∀ r, z_share L v1 r → post r) : wX6_share (nI L.1) t_now_load_weights t_now_load_profits post v1 := by
  have l1 := hl.1
  unfold wX6_share
  refine s1_has l1 (fun i e hi => ?_) (fun h => ?_)
  · subst e
    obtain ⟨⟨w1, w2⟩, p1, p2⟩ := hl.it hi
    have hz := z_shr_pz p1 p2 w1 w2
    unfold wX6_share_11
    rw [nI_clamp (by omega), (hA i hi).1, (hA i hi).2]
    refine ⟨fun z => absurd z (by decide), fun _ => ⟨vp_in_nI (by omega) (by omega), fun _ => ⟨vp_in_nI (by omega) (by omega), vp_in_nI (by omega) (by omega), f32_nn hz.nn, ?_⟩, fun g => ?_⟩⟩
    · exact s6_bitsOfFloat hz (by omega) (by omega) (hk _ (Or.inl ⟨i, rfl, hi, rfl⟩))
    · exact absurd ((show (1 : Int32) = nI 1 from rfl) ▸ (nI_leI (by omega) (by omega)).mpr w1) g
  · unfold wX6_share_11
    exact ⟨fun _ => hk _ (Or.inr ⟨h, rfl⟩), fun g => absurd rfl g⟩
theorem s7_share {L : ZL} {t_all : Nat → Int32} {post : Int32 → Int32 → Prop} {t_raised v1 : Int32} (hl : l_lim L) (hL : y_L L t_all) (hk : ∀ (r t_raised' : Int32), z_share L v1 r → t_raised' = 0 → post r t_raised') : wX7_share t_all post t_raised v1 := by
  have l1 := hl.1
  obtain ⟨a0, a1, a2, a3, a4⟩ := id hL
  unfold wX7_share
  refine s7_isItem l1 a0 (fun i e hi => ?_) (fun h => ?_)
  · subst e
    obtain ⟨⟨w1, w2⟩, p1, p2⟩ := hl.it hi
    have hz := z_shr_pz p1 p2 w1 w2
    unfold wX7_share_10
    rw [show (64 : Int32) = nI 64 from rfl, show (4 : Int32) = nI 4 from rfl, nI_add, nI_add, nI_clamp (by omega), nI_clamp (by omega), (a4 i hi).1, (a4 i hi).2]
    refine ⟨fun z => absurd z (by decide), fun _ => ⟨vp_in_nI (by omega) (by omega), vp_in_nI (by omega) (by omega), f32_nn hz.nn, ?_⟩⟩
    exact sJ_f2ib hz.nn (hk _ _ (Or.inl ⟨i, rfl, hi, rfl⟩) rfl)
  · unfold wX7_share_10
    exact ⟨fun _ => hk _ _ (Or.inr ⟨h, rfl⟩) rfl, fun g => absurd rfl g⟩
/-- linear -/
def z_lv (n : Nat) (w p : Nat → Nat) (R : Nat) : UInt64 :=
  if z_bk w R n 0 < n then FP.dadd (FP.l2d (lN (z_sm p (z_bk w R n 0)))) (FP.ddiv (FP.dmul (FP.l2d (lN (R - z_sm w (z_bk w R n 0)))) (FP.l2d (lN (p (z_bk w R n 0))))) (FP.l2d (lN (w (z_bk w R n 0))))) else FP.l2d (lN (z_sm p (z_bk w R n 0)))
theorem f64_mul {a b : Nat} (ha : a < 2 ^ 31) (hb : b < 2 ^ 31) : f_pz FP.Core.b64 (-159) 12 (FP.Core.val64 (FP.dmul (FP.l2d (lN a)) (FP.l2d (lN b)))) := by
  obtain ⟨c1, c2, c3, c4, c5⟩ := f64_c
  show f_pz _ _ _ (FP.Core.val64 (FP.Core.dmul _ _))
  rw [FP.Core.val64_dmul]
  exact f_pz_mul FP.Core.good_b64 (f64_l2d ha).1 (f64_l2d hb).1 (by rw [c5]; omega) (by rw [c5]; omega) (by rw [c3]; omega) (by rw [c4]; omega)
theorem f64_div {a b c : Nat} (ha : a < 2 ^ 31) (hb : b < 2 ^ 31) (h1 : 1 ≤ c) (hc : c < 2 ^ 31) : f_pz FP.Core.b64 (-243) 66 (FP.Core.val64 (FP.ddiv (FP.dmul (FP.l2d (lN a)) (FP.l2d (lN b))) (FP.l2d (lN c)))) := by
  obtain ⟨c1, c2, c3, c4, c5⟩ := f64_c
  show f_pz _ _ _ (FP.Core.val64 (FP.Core.ddiv _ _))
  rw [FP.Core.val64_ddiv]
  exact f_pz_div FP.Core.good_b64 (f64_mul ha hb) (f64_l2d hc).1 ((f64_l2d hc).2 h1) (by rw [c5]; omega) (by omega) (by rw [c3]; omega) (by rw [c4]; omega)
theorem f64_add {a b c d : Nat} (ha : a < 2 ^ 31) (hb : b < 2 ^ 31) (h1 : 1 ≤ c) (hc : c < 2 ^ 31) (hd : d < 2 ^ 31) : f_pz FP.Core.b64 (-296) 290 (FP.Core.val64 (FP.dadd (FP.l2d (lN d)) (FP.ddiv (FP.dmul (FP.l2d (lN a)) (FP.l2d (lN b))) (FP.l2d (lN c))))) := by
  obtain ⟨c1, c2, c3, c4, c5⟩ := f64_c
  show f_pz _ _ _ (FP.Core.val64 (FP.Core.dadd _ _))
  rw [FP.Core.val64_dadd]
  exact f_pz_add (K := 222) FP.Core.good_b64 (f64_l2d hd).1 (f64_div ha hb h1 hc) (by omega) (by omega) (by rw [c5]; omega) (by rw [c5]; omega) (by omega) (by omega) (by rw [c3]; omega) (by rw [c4]; omega)
theorem z_lv_pz {n : Nat} {w p : Nat → Nat} {R : Nat} (hb : y_bd n w p) (hR : R < 2 ^ 31) : f_pz FP.Core.b64 (-296) 290 (FP.Core.val64 (z_lv n w p R)) := by
  obtain ⟨b1, b2, b3, b4⟩ := z_bk_ok (R := R) hb
  unfold z_lv
  split
  · next g =>
    have lb := hb.lt g
    have pb := hb.2.1 _ g
    exact f64_add (by omega) lb.2 pb.1 lb.1 b4
  · exact f_pz_mono (f64_l2d b4).1 (by omega) (by omega)
theorem s6_linearValue {n : Nat} {w p : Nat → Nat} {R : Nat} {tw tp : Nat → Int32} {post : UInt64 → Prop} (hb : y_bd n w p) (hwp : x_wp n w p tw tp) (hR : R < 2 ^ 31) (hk : post (z_lv n w p R)) :
    wX6_linearValue (nI n) (nI R) (nI (z_bk w R n 0)) (nI (z_sm w (z_bk w R n 0))) (nI (z_sm p (z_bk w R n 0))) tw tp post := by
  have hn := hb.1
  obtain ⟨b1, b2, b3, b4⟩ := z_bk_ok (R := R) hb
  unfold z_lv at hk
  unfold wX6_linearValue wX2_breakIsItem
  rw [nI_leI (by omega) (by omega), f_i2d b4]
  refine ⟨fun g => ?_, fun g => ?_⟩
  · rw [if_neg (by omega)] at hk
    exact ⟨fun _ => hk, fun z => absurd rfl z⟩
  · rw [if_pos (by omega)] at hk
    have lb := hb.lt (show z_bk w R n 0 < n by omega)
    have pb := hb.2.1 _ (show z_bk w R n 0 < n by omega)
    obtain ⟨e1, e2⟩ := hwp _ (show z_bk w R n 0 < n by omega)
    unfold wX6_linearValue_18 wX2_roomLeft wX6_linearValue_40
    rw [nI_clamp (by omega), e1, e2, nI_l hR, nI_l b3, lN_sub b2, f_i2d lb.1, f_i2d lb.2]
    refine ⟨fun z => absurd z (by decide), fun _ => ⟨vp_in_nI (by omega) (by omega), fun _ => ⟨vp_in_nI (by omega) (by omega), f64_nn (f64_mul (by omega) lb.2).nn, vp_in_nI (by omega) (by omega), f64_nn (f64_div (by omega) lb.2 pb.1 lb.1).nn, f64_nn (f64_add (by omega) lb.2 pb.1 lb.1 b4).nn, hk⟩, fun g2 => ?_⟩⟩
    exact absurd ((show (1 : Int32) = nI 1 from rfl) ▸ (nI_leI (by omega) (by omega)).mpr pb.1) g2
theorem s7_linearNow {n : Nat} {w p : Nat → Nat} {R : Nat} {tw tp : Nat → Int64} {post : UInt64 → Prop} (hb : y_bd n w p) (hwp : y_wp n w p tw tp) (hR : R < 2 ^ 31) (hk : post (z_lv n w p R)) :
    wX7_linearNow (nI n) (lN R) (nI (z_bk w R n 0)) (lN (z_sm w (z_bk w R n 0))) (lN (z_sm p (z_bk w R n 0))) tp tw post := by
  have hn := hb.1
  obtain ⟨b1, b2, b3, b4⟩ := z_bk_ok (R := R) hb
  unfold z_lv at hk
  unfold wX7_linearNow wX7_isBreak
  rw [nI_leI (by omega) (by omega)]
  refine ⟨fun g => ?_, fun g => ?_⟩
  · rw [if_neg (by omega)] at hk
    exact ⟨fun _ => hk, fun z => absurd rfl z⟩
  · rw [if_pos (by omega)] at hk
    have lb := hb.lt (show z_bk w R n 0 < n by omega)
    have pb := hb.2.1 _ (show z_bk w R n 0 < n by omega)
    obtain ⟨e1, e2⟩ := hwp _ (show z_bk w R n 0 < n by omega)
    unfold wX7_linearNow_10
    rw [nI_clamp (by omega), e1, e2, lN_sub b2]
    exact ⟨fun z => absurd z (by decide), fun _ => ⟨vp_in_nI (by omega) (by omega), vp_in_nI (by omega) (by omega), f64_nn (f64_mul (by omega) lb.2).nn, f64_nn (f64_div (by omega) lb.2 pb.1 lb.1).nn, f64_nn (f64_add (by omega) lb.2 pb.1 lb.1 b4).nn, hk⟩⟩
abbrev l_lv (L : ZL) : UInt64 := z_lv (l_n L) (l_w L) (l_p L) L.2.2.2.1
theorem s6_linear {L : ZL} {tw tp : Nat → Int32} {post : Int64 → Prop} (hl : l_lim L) (hwp : x_wp (l_n L) (l_w L) (l_p L) tw tp) (hk : post (l_lv L).toInt64) :
    wX6_linear (nI (l_n L)) (nI L.2.2.2.1) (nI (l_bk L)) (nI (z_sm (l_w L) (l_bk L))) (nI (z_sm (l_p L) (l_bk L))) tw tp post := by
  have hbd := z_lim_bd hl 60
  have hR : L.2.2.2.1 < 2 ^ 31 := by have := hl.2.2.2.2.1; omega
  unfold wX6_linear
  refine s6_linearValue hbd hwp hR ?_
  exact s6_bitsOfDouble (z_lv_pz hbd hR) (by omega) (by omega) hk
theorem s7_linear {L : ZL} {d : ZC} {t_all : Nat → Int32} {post : Int64 → Int32 → Int32 → Int64 → Int32 → Int64 → Int64 → Int32 → Int32 → Int32 → Int32 → Int64 → Int64 → Int64 → Int32 → (Nat → Int32) → (Nat → Int32) → (Nat → Int64) → (Nat → Int64) → (Nat → Int64) → (Nat → Int64) → (Nat → Int64) → (Nat → Int64) → (Nat → Int64) → (Nat → Int64) → Prop} {t_raised t_many : Int32} {t_room : Int64} {t_breakAt : Int32} {t_breakWeight t_breakProfit : Int64} {t_from t_to t_made t_sets : Int32} {t_bestBits t_bestWeight t_bestProfit : Int64} {t_nexts : Int32} {t_orderOf t_placeOf : Nat → Int32} {t_w t_p t_setBits t_setWeight t_setProfit t_nextProfit t_nextWeight t_nextBits : Nat → Int64} (hl : l_lim L) (hL : y_L L t_all) (ha : l_at L d) (hk : ∀ (r : Int64) (t_raised' t_many' : Int32) (t_room' : Int64) (t_breakAt' : Int32) (t_breakWeight' t_breakProfit' : Int64) (t_from' t_to' t_made' t_sets' : Int32) (t_bestBits' t_bestWeight' t_bestProfit' : Int64) (t_nexts' : Int32) (t_orderOf' t_placeOf' : Nat → Int32) (t_w' t_p' t_setBits' t_setWeight' t_setProfit' t_nextProfit' t_nextWeight' t_nextBits' : Nat → Int64), r = (l_lv L).toInt64 → t_raised' = 0 → post r t_raised' t_many' t_room' t_breakAt' t_breakWeight' t_breakProfit' t_from' t_to' t_made' t_sets' t_bestBits' t_bestWeight' t_bestProfit' t_nexts' t_orderOf' t_placeOf' t_w' t_p' t_setBits' t_setWeight' t_setProfit' t_nextProfit' t_nextWeight' t_nextBits') : wX7_linear t_all post t_raised t_many t_room t_breakAt t_breakWeight t_breakProfit t_from t_to t_made t_sets t_bestBits t_bestWeight t_bestProfit t_nexts t_orderOf t_placeOf t_w t_p t_setBits t_setWeight t_setProfit t_nextProfit t_nextWeight t_nextBits := by
  have hlo := hL.ld hl
  have hbd := z_lim_bd hl 60
  have hR : L.2.2.2.1 < 2 ^ 31 := by have := hl.2.2.2.2.1; omega
  unfold wX7_linear
  refine s7_lays hlo ha (fun nx orderOf placeOf tw tp sb sw sp np nw nb harr hy => ?_)
  unfold wX7_linear_9
  refine s7_linearNow hbd harr.2.2 hR ?_
  exact sJ_d2lb (z_lv_pz hbd hR).nn (hk _ _ _ _ _ _ _ _ _ _ _ _ _ _ _ _ _ _ _ _ _ _ _ _ _ rfl rfl)
/-- part -/
theorem f64_fin {lo hi : Int} {x : UInt64} (h : f_pz FP.Core.b64 lo hi (FP.Core.val64 x)) : ∃ s c q, FP.Core.val64 x = .fin s c q := by
  rcases h with h | ⟨c, q, h, _⟩
  · exact ⟨_, _, _, h⟩
  · exact ⟨_, _, _, h⟩
theorem f64_part {lo hi : Int} {x : UInt64} {v1 v2 : Int32} (h : f_pz FP.Core.b64 lo hi (FP.Core.val64 x)) (h2 : ¬ v2 = 0) : vf_n64 (FP.dmul x (FP.i2d v1)) ∧ vf_n64 (FP.ddiv (FP.dmul x (FP.i2d v1)) (FP.i2d v2)) := by
  obtain ⟨s, c, q, e1⟩ := f64_fin h
  obtain ⟨c2, q2, e2⟩ := FP.Core.l2d_shape v1.toInt64
  obtain ⟨c3, q3, e3⟩ := FP.Core.l2d_shape v2.toInt64
  rw [← FP.Core.i2d_l2d] at e2 e3
  have m1 : FP.Core.val64 (FP.Core.dmul x (FP.Core.i2d v1)) ≠ .nan := by
    rw [FP.Core.val64_dmul, e1, e2]
    exact f_rrn
  have hz : c3 ≠ 0 := fun g => by
    have k := FP.Core.i2d_int v2
    have k2 : FP.Core.Whole v2.toInt (FP.Core.val64 (FP.Core.i2d v2)) := k
    rw [e3] at k2
    have k3 := (FP.Core.whole_zero k2).mp g
    exact h2 (Int32.toInt_inj.mp (by rw [k3]; rfl))
  refine ⟨f64_nn m1, f64_nn ?_⟩
  show FP.Core.val64 (FP.Core.ddiv (FP.Core.dmul x (FP.Core.i2d v1)) (FP.Core.i2d v2)) ≠ .nan
  rw [FP.Core.val64_ddiv, e3]
  generalize FP.Core.val64 (FP.Core.dmul x (FP.Core.i2d v1)) = y at m1
  cases y with
  | nan => exact absurd rfl m1
  | inf s2 => exact fun g => by cases g
  | fin s2 c4 q4 =>
    show (if c3 = 0 then _ else _) ≠ _
    rw [if_neg hz]
    exact f_rrn
def z_part (L : ZL) (v1 v2 : Int32) : Int32 := if v2 = 0 then 0 else FP.d2i (FP.ddiv (FP.dmul (l_lv L) (FP.i2d v1)) (FP.i2d v2))
theorem s6_part {L : ZL} {tw tp : Nat → Int32} {post : Int32 → Prop} {v1 v2 : Int32} (hl : l_lim L) (hwp : x_wp (l_n L) (l_w L) (l_p L) tw tp) (hk : post (z_part L v1 v2)) :
    wX6_part (nI (l_n L)) (nI L.2.2.2.1) (nI (l_bk L)) (nI (z_sm (l_w L) (l_bk L))) (nI (z_sm (l_p L) (l_bk L))) tw tp post v1 v2 := by
  have hbd := z_lim_bd hl 60
  have hR : L.2.2.2.1 < 2 ^ 31 := by have := hl.2.2.2.2.1; omega
  unfold z_part at hk
  unfold wX6_part
  refine ⟨fun g => ?_, fun g => ?_⟩
  · rw [if_pos g] at hk
    exact hk
  · rw [if_neg g] at hk
    refine s6_linearValue hbd hwp hR ?_
    obtain ⟨k1, k2⟩ := f64_part (v1 := v1) (z_lv_pz hbd hR) g
    exact ⟨k1, k2, hk⟩
theorem s7_part {L : ZL} {d : ZC} {t_all : Nat → Int32} {post : Int32 → Int32 → Int32 → Int64 → Int32 → Int64 → Int64 → Int32 → Int32 → Int32 → Int32 → Int64 → Int64 → Int64 → Int32 → (Nat → Int32) → (Nat → Int32) → (Nat → Int64) → (Nat → Int64) → (Nat → Int64) → (Nat → Int64) → (Nat → Int64) → (Nat → Int64) → (Nat → Int64) → (Nat → Int64) → Prop} {t_raised t_many : Int32} {t_room : Int64} {t_breakAt : Int32} {t_breakWeight t_breakProfit : Int64} {t_from t_to t_made t_sets : Int32} {t_bestBits t_bestWeight t_bestProfit : Int64} {t_nexts : Int32} {t_orderOf t_placeOf : Nat → Int32} {t_w t_p t_setBits t_setWeight t_setProfit t_nextProfit t_nextWeight t_nextBits : Nat → Int64} {v1 v2 : Int32} (hl : l_lim L) (hL : y_L L t_all) (ha : l_at L d) (hk : ∀ (r t_raised' t_many' : Int32) (t_room' : Int64) (t_breakAt' : Int32) (t_breakWeight' t_breakProfit' : Int64) (t_from' t_to' t_made' t_sets' : Int32) (t_bestBits' t_bestWeight' t_bestProfit' : Int64) (t_nexts' : Int32) (t_orderOf' t_placeOf' : Nat → Int32) (t_w' t_p' t_setBits' t_setWeight' t_setProfit' t_nextProfit' t_nextWeight' t_nextBits' : Nat → Int64), r = z_part L v1 v2 → t_raised' = 0 → post r t_raised' t_many' t_room' t_breakAt' t_breakWeight' t_breakProfit' t_from' t_to' t_made' t_sets' t_bestBits' t_bestWeight' t_bestProfit' t_nexts' t_orderOf' t_placeOf' t_w' t_p' t_setBits' t_setWeight' t_setProfit' t_nextProfit' t_nextWeight' t_nextBits') : wX7_part t_all post t_raised t_many t_room t_breakAt t_breakWeight t_breakProfit t_from t_to t_made t_sets t_bestBits t_bestWeight t_bestProfit t_nexts t_orderOf t_placeOf t_w t_p t_setBits t_setWeight t_setProfit t_nextProfit t_nextWeight t_nextBits v1 v2 := by
  have hlo := hL.ld hl
  have hbd := z_lim_bd hl 60
  have hR : L.2.2.2.1 < 2 ^ 31 := by have := hl.2.2.2.2.1; omega
  unfold z_part at hk
  unfold wX7_part
  refine ⟨fun g => ?_, fun g => ?_⟩
  · exact hk _ _ _ _ _ _ _ _ _ _ _ _ _ _ _ _ _ _ _ _ _ _ _ _ _ (by rw [if_pos g]) rfl
  · refine s7_lays hlo ha (fun nx orderOf placeOf tw tp sb sw sp np nw nb harr hy => ?_)
    unfold wX7_part_15
    refine s7_linearNow hbd harr.2.2 hR ?_
    obtain ⟨k1, k2⟩ := f64_part (v1 := v1) (z_lv_pz hbd hR) g
    exact ⟨k1, k2, hk _ _ _ _ _ _ _ _ _ _ _ _ _ _ _ _ _ _ _ _ _ _ _ _ _ (by rw [if_neg g]) rfl⟩
