/-! the text read, by the reference: lines, all of it -/
def y_R (s : ZR) (badAt bad : Int32) (tW tP : Int64) (told : Nat → Int32) : Prop :=
  bad = nI s.2.2.1 ∧ badAt = z_fp s ∧ (s.2.2.1 = 0 → y_L s.2.2.2.2 told ∧ tW = lN (z_sm s.2.2.2.2.2.1 s.2.2.2.2.1) ∧ tP = lN (z_sm s.2.2.2.2.2.2.1 s.2.2.2.2.1)) ∧ ∃ q, told 0 = nI q ∧ q ≤ 60
/-- a fault that is there lies ahead -/
def z_ahd (s : ZR) (b : Nat) : Prop := ¬ s.2.2.1 = 0 → s.2.2.2.1 < b
theorem z_note_ahd {k b b' : Nat} {s : ZR} (h : z_ahd s b) (hb : b < b') : z_ahd (z_note k b s) b' := by
  unfold z_note
  split
  · exact fun _ => hb
  · next g => exact fun _ => by have := h g; omega
theorem z_nit_ahd {b b' v sum : Nat} {s : ZR} (h : z_ahd s b) (hb : b < b') : z_ahd (z_nit b v sum s) b' := by
  unfold z_nit
  split
  · split
    · exact z_note_ahd h hb
    · exact fun g => by have := h g; omega
  · exact z_note_ahd h hb
theorem z_note_bad {k b : Nat} {s : ZR} (h : ¬ s.2.2.1 = 0) : z_note k b s = s := by
  unfold z_note
  rw [if_neg h]
theorem z_nit_bad {b v sum : Nat} {s : ZR} (h : ¬ s.2.2.1 = 0) : z_nit b v sum s = s := by
  unfold z_nit
  split
  · split
    · exact z_note_bad h
    · rfl
  · exact z_note_bad h
theorem s7_isBad {s : ZR} {k b : Nat} {post : Int32 → Int32 → Prop} (hs : s.2.2.1 ≤ 4) (hb : b ≤ 600) (ha : z_ahd s b) (hk : k ≠ 0) (h : post (z_fp (z_note k b s)) (nI (z_note k b s).2.2.1)) : wX7_isBad post (z_fp s) (nI s.2.2.1) (nI k) (nI b) := by
  unfold wX7_isBad wX7_isBad_31
  rw [show (0 : Int32) = nI 0 from rfl, nI_eq (by omega) (by omega)]
  refine ⟨fun g => ?_, fun g => ?_⟩
  · have e : z_note k b s = (s.1, s.2.1, k, b, s.2.2.2.2) := by unfold z_note; rw [if_pos g]
    rw [e] at h
    have e2 : z_fp (s.1, s.2.1, k, b, s.2.2.2.2) = nI b := by unfold z_fp; rw [if_neg hk]
    rw [e2] at h
    exact h
  · rw [z_note_bad g] at h
    have hlt := ha g
    have e2 : z_fp s = nI s.2.2.2.1 := by unfold z_fp; rw [if_neg g]
    rw [e2] at h ⊢
    refine ⟨fun z => ?_, fun _ => ⟨fun z => ?_, fun _ => h⟩⟩
    · rw [nI_ltI (by omega) (by omega)] at z
      omega
    · rw [nI_eq (by omega) (by omega)] at z
      omega
theorem l_in {v a b : Nat} {post : Int32 → Prop} (hv : v < 2 ^ 62) (ha : a < 2 ^ 62) (hb : b < 2 ^ 62) (h1 : a ≤ v ∧ v ≤ b → post 1) (h0 : ¬ (a ≤ v ∧ v ≤ b) → post 0) : wX7_in post (lN v) (lN a) (lN b) := by
  refine s7_in (fun g1 g2 => ?_) (fun g => ?_)
  · rw [pk_lLE (by omega) (by omega)] at g1 g2
    exact h1 ⟨g1, g2⟩
  · rw [pk_lLT (by omega) (by omega), pk_lLT (by omega) (by omega)] at g
    exact h0 (by omega)
theorem z_tk_kind {u : Nat → Nat} {n b : Nat} : (z_tk u n b).1 = 1 ∨ (z_tk u n b).1 = 2 ∨ (z_tk u n b).1 = 3 ∨ (z_tk u n b).1 = 4 := by
  unfold z_tk
  split
  · exact Or.inr (Or.inl rfl)
  · split
    · split
      · exact Or.inl rfl
      · exact Or.inr (Or.inr (Or.inl rfl))
    · split
      · exact Or.inr (Or.inr (Or.inr rfl))
      · exact Or.inl rfl
theorem z_tk_val {u : Nat → Nat} {n b : Nat} (hb : b < n) (h : (z_tk u n b).1 = 3) : (z_tk u n b).2.2 < 2 ^ 61 := by
  by_cases g : z_lt (u b) = true
  · rw [z_tk_word g] at h
    exact absurd (show (2 : Nat) = 3 from h) (by omega)
  · by_cases g2 : z_dg (u b) = true
    · by_cases g3 : 10 < z_en (fun i => z_dg (u i)) n b - b
      · rw [z_tk_long g g2 g3] at h
        exact absurd (show (1 : Nat) = 3 from h) (by omega)
      · rw [z_tk_num g g2 g3]
        exact z_va_61 (by omega) (z_en_val hb g2).2.2
    · by_cases g3 : u b = 59
      · rw [z_tk_sign g g2 g3] at h
        exact absurd (show (4 : Nat) = 3 from h) (by omega)
      · rw [z_tk_bad g g2 g3] at h
        exact absurd (show (1 : Nat) = 3 from h) (by omega)
/-- the kind that the reference's sort tells -/
theorem y_T_sort {u : Nat → Nat} {n b : Nat} {reached begin sort : Int32} {value word : Int64} (h : y_T u n b reached begin sort value word) (k : Nat) (hk : 1 ≤ k ∧ k ≤ 4) : sort = nI k ↔ (b < n ∧ (z_tk u n b).1 = k) := by
  rcases h.2 with ⟨g, e⟩ | ⟨g, e, _⟩
  · rw [e, show (0 : Int32) = nI 0 from rfl, nI_eq (by omega) (by omega)]
    exact ⟨fun z => by omega, fun z => absurd z.1 g⟩
  · have hb := z_tk_kind (u := u) (n := n) (b := b)
    rw [e, nI_eq (by omega) (by omega)]
    exact ⟨fun z => ⟨g, z⟩, fun z => z.2⟩
theorem s7_takes {u : Nat → Nat} {n b lo hi : Nat} {s : ZR} {reached begin sort : Int32} {value word : Int64} {wrongAt : Int32} {post : Int32 → Int32 → Int32 → Int32 → Prop} (hn : n ≤ 600) (hbn : b ≤ n) (hT : y_T u n b reached begin sort value word) (hs : s.2.2.1 ≤ 4) (ha : z_ahd s b) (hlo : lo < 2 ^ 31) (hhi : hi < 2 ^ 31)
    (h1 : b < n → (z_tk u n b).1 = 3 → value = lN (z_tk u n b).2.2 → post 1 wrongAt (z_fp (if lo ≤ (z_tk u n b).2.2 ∧ (z_tk u n b).2.2 ≤ hi then s else z_note 2 b s)) (nI (if lo ≤ (z_tk u n b).2.2 ∧ (z_tk u n b).2.2 ≤ hi then s else z_note 2 b s).2.2.1)) (h0 : ¬ (b < n ∧ (z_tk u n b).1 = 3) → post 0 (nI b) (z_fp s) (nI s.2.2.1)) :
    wX7_takes begin sort value post wrongAt (z_fp s) (nI s.2.2.1) (lN lo) (lN hi) := by
  have hso := y_T_sort hT 3 (by omega)
  have eb := hT.1
  unfold wX7_takes
  rw [show (3 : Int32) = nI 3 from rfl, hso]
  refine ⟨fun g => ?_, fun g => ?_⟩
  · have ev : value = lN (z_tk u n b).2.2 := by
      rcases hT.2 with ⟨z, _⟩ | ⟨_, _, _, z, _⟩
      · exact absurd g.1 z
      · exact z g.2
    have hv := z_tk_val g.1 g.2
    have h1' := h1 g.1 g.2 ev
    rw [ev]
    refine l_in (by omega) (by omega) (by omega) (fun q => ?_) (fun q => ?_)
    · rw [if_pos q] at h1'
      exact ⟨fun z => absurd z (by decide), fun _ => h1'⟩
    · rw [if_neg q] at h1'
      refine ⟨fun _ => ?_, fun z => absurd rfl z⟩
      rw [eb]
      exact s7_isBad (k := 2) hs (by omega) ha (by omega) h1'
  · unfold wX7_fails
    rw [eb]
    exact ⟨rfl, h0 g⟩
theorem s7_takesPart {u : Nat → Nat} {n b sum : Nat} {s : ZR} {reached begin sort : Int32} {value word : Int64} {wrongAt : Int32} {v1 : Int64} {post : Int32 → Int32 → Int32 → Int32 → Prop} (hn : n ≤ 600) (hbn : b ≤ n) (hT : y_T u n b reached begin sort value word) (hs : s.2.2.1 ≤ 4) (ha : z_ahd s b) (hsum : sum < 2 ^ 31) (hv1 : s.2.2.1 = 0 → v1 = lN sum)
    (h1 : b < n → (z_tk u n b).1 = 3 → value = lN (z_tk u n b).2.2 → post 1 wrongAt (z_fp (z_nit b (z_tk u n b).2.2 sum s)) (nI (z_nit b (z_tk u n b).2.2 sum s).2.2.1)) (h0 : ¬ (b < n ∧ (z_tk u n b).1 = 3) → post 0 (nI b) (z_fp s) (nI s.2.2.1)) :
    wX7_takesPart begin sort value post wrongAt (z_fp s) (nI s.2.2.1) v1 := by
  have eb := hT.1
  unfold wX7_takesPart
  refine s7_takes (lo := 1) (hi := 999999999) hn hbn hT hs ha (by omega) (by omega) (fun g1 g2 ev => ?_) (fun g => ?_)
  · have hv := z_tk_val g1 g2
    have h1' := h1 g1 g2 ev
    refine ⟨fun z => absurd z (by decide), fun _ => ?_⟩
    rw [ev]
    refine l_in (a := 1) (b := 999999999) (by omega) (by omega) (by omega) (fun q => ?_) (fun q => ?_)
    · rw [if_pos q]
      refine ⟨fun z => absurd z (by decide), fun _ => ?_⟩
      by_cases f : s.2.2.1 = 0
      · unfold z_nit at h1'
        rw [if_pos q] at h1'
        rw [hv1 f, lN_add, show (2147483647 : Int64) = lN 2147483647 from rfl, pk_lLE (by omega) (by omega)]
        refine ⟨fun k => ?_, fun k => ?_⟩
        · rw [if_neg (by omega)] at h1'
          exact h1'
        · rw [if_pos (by omega)] at h1'
          rw [eb]
          exact s7_isBad (k := 4) hs (by omega) ha (by omega) h1'
      · rw [z_nit_bad f] at h1'
        refine ⟨fun _ => h1', fun _ => ?_⟩
        rw [eb]
        refine s7_isBad (k := 4) hs (by omega) ha (by omega) ?_
        rw [z_note_bad f]
        exact h1'
    · rw [if_neg q]
      unfold z_nit at h1'
      rw [if_neg q] at h1'
      exact ⟨fun _ => h1', fun z => absurd rfl z⟩
  · exact ⟨fun _ => h0 g, fun z => absurd rfl z⟩
theorem z_rd_e {u : Nat → Nat} {n r p : Nat} {s : ZR} (hp : ¬ p < n) (hs : ¬ s.1 = 0) : z_rd u n (r + 1) p s = (1, n, s.2.2.2.2) := by
  show (if p < n then _ else _) = _
  rw [if_neg hp, if_neg hs]
/-- a token that can not stand there -/
theorem z_rd_none {u : Nat → Nat} {n r b : Nat} {s : ZR} {Z : Nat × Nat × ZL} (hr : n < b + r) (hb : b ≤ n) (hs : ¬ s.1 = 0) (hZ : z_rd u n r b s = Z) (h : b < n → z_act (z_tk u n b).1 b (z_tk u n b).2.2 s = none) : Z.1 = 1 ∧ Z.2.1 = b := by
  obtain ⟨r', rfl⟩ : ∃ r', r = r' + 1 := ⟨r - 1, by omega⟩
  by_cases g : b < n
  · rw [z_rd_s g, h g] at hZ
    rw [← hZ]
    exact ⟨rfl, rfl⟩
  · rw [z_rd_e g hs] at hZ
    rw [← hZ]
    exact ⟨rfl, by show n = b; omega⟩
theorem z_rd_some {u : Nat → Nat} {n r b : Nat} {s s' : ZR} {Z : Nat × Nat × ZL} (hr : n < b + r) (hb : b < n) (hZ : z_rd u n r b s = Z) (h : z_act (z_tk u n b).1 b (z_tk u n b).2.2 s = some s') : ∃ r', r = r' + 1 ∧ z_rd u n r' (z_en (fun i => z_bl (u i)) n (z_tk u n b).2.1) s' = Z ∧ n < z_en (fun i => z_bl (u i)) n (z_tk u n b).2.1 + r' ∧ b < z_en (fun i => z_bl (u i)) n (z_tk u n b).2.1 ∧ z_en (fun i => z_bl (u i)) n (z_tk u n b).2.1 ≤ n := by
  obtain ⟨r', rfl⟩ : ∃ r', r = r' + 1 := ⟨r - 1, by omega⟩
  rw [z_rd_s hb, h] at hZ
  have he := z_tk_end (u := u) hb
  have b2 := (z_ru_ok (f := fun i => z_bl (u i)) (n := n) (r := n - (z_tk u n b).2.1) (p := (z_tk u n b).2.1))
  have b3 : (z_tk u n b).2.1 ≤ z_en (fun i => z_bl (u i)) n (z_tk u n b).2.1 := b2.1
  have b4 : z_en (fun i => z_bl (u i)) n (z_tk u n b).2.1 ≤ n := b2.2.1 he.2
  exact ⟨r', rfl, hZ, by omega, by omega, b4⟩
/-- a number is not taken where none is due -/
theorem z_act_no3 {u : Nat → Nat} {n b : Nat} {s : ZR} (h3 : ¬ (z_tk u n b).1 = 3) (h0 : ¬ s.1 = 0) (h5 : ¬ s.1 = 5) : z_act (z_tk u n b).1 b (z_tk u n b).2.2 s = none := by
  unfold z_act z_word
  rw [if_neg h3, if_neg h0, if_neg h5]
  split
  · rfl
  · split
    · rfl
    · rfl
theorem z_act_is3 {u : Nat → Nat} {n b : Nat} {s : ZR} (h3 : (z_tk u n b).1 = 3) : z_act (z_tk u n b).1 b (z_tk u n b).2.2 s = z_num b (z_tk u n b).2.2 s := by
  unfold z_act
  rw [if_neg (by omega), if_pos h3]
/-- what a line leaves: a sign is due -/
def z_L1 (u : Nat → Nat) (n : Nat) (Z : Nat × Nat × ZL) (r b : Nat) (reached begin sort : Int32) (value word : Int64) (badAt bad : Int32) (tW tP : Int64) (told : Nat → Int32) : Prop :=
  ∃ r' b' s', r' < r ∧ b < b' ∧ b' ≤ n ∧ n < b' + r' ∧ s'.1 = 5 ∧ z_inv s' ∧ y_T u n b' reached begin sort value word ∧ y_R s' badAt bad tW tP told ∧ z_ahd s' b' ∧ z_rd u n r' b' s' = Z
theorem y_T_re {u : Nat → Nat} {n b : Nat} {reached begin sort : Int32} {value word : Int64} (h : y_T u n b reached begin sort value word) (hb : b < n) : reached = nI (z_tk u n b).2.1 := by
  rcases h.2 with ⟨z, _⟩ | ⟨_, _, z, _⟩
  · exact absurd hb z
  · exact z
theorem z_fp_2 {s s' : ZR} (h : s.2.2.1 = s'.2.2.1) (h2 : s.2.2.2.1 = s'.2.2.2.1) : z_fp s = z_fp s' := by
  unfold z_fp
  rw [h, h2]
/-- what the last row of a line does to what is told -/
theorem y_told_put {s : ZR} {q w v : Nat} {told : Nat → Int32} (hl : s.2.2.2.2.1 = q) (hq : q < 60) (hL : y_L s.2.2.2.2 told) :
    y_L (q + 1, z_up s.2.2.2.2.2.1 q w, z_up s.2.2.2.2.2.2.1 q v, s.2.2.2.2.2.2.2) (upd (upd (upd told (4 + q) (nI w)) (64 + q) (nI v)) 0 (nI (q + 1))) := by
  obtain ⟨a0, a1, a2, a3, a4⟩ := hL
  refine ⟨pk_us, ?_, ?_, ?_, fun k hk => ?_⟩
  · rw [pk_un (by omega), pk_un (by omega), pk_un (by omega)]; exact a1
  · rw [pk_un (by omega), pk_un (by omega), pk_un (by omega)]; exact a2
  · rw [pk_un (by omega), pk_un (by omega), pk_un (by omega)]; exact a3
  · have hk' : k < q + 1 := hk
    show upd (upd (upd told (4 + q) (nI w)) (64 + q) (nI v)) 0 (nI (q + 1)) (4 + k) = nI (z_up s.2.2.2.2.2.1 q w k) ∧ upd (upd (upd told (4 + q) (nI w)) (64 + q) (nI v)) 0 (nI (q + 1)) (64 + k) = nI (z_up s.2.2.2.2.2.2.1 q v k)
    rw [pk_un (show 4 + k ≠ 0 by omega), pk_un (show 4 + k ≠ 64 + q by omega), pk_un (show 64 + k ≠ 0 by omega)]
    by_cases e : k = q
    · rw [e, pk_us, pk_us, z_up_s, z_up_s]
      exact ⟨rfl, rfl⟩
    · rw [pk_un (show 4 + k ≠ 4 + q by omega), pk_un (show 64 + k ≠ 64 + q by omega), pk_un (show 64 + k ≠ 4 + q by omega), z_up_n e, z_up_n e]
      exact a4 k (by omega)
theorem z_pt_f {v : Nat} {s : ZR} : (z_pt v s).2.2.1 = s.2.2.1 ∧ (z_pt v s).2.2.2.1 = s.2.2.2.1 := by
  unfold z_pt
  split
  · exact ⟨rfl, rfl⟩
  · exact ⟨rfl, rfl⟩
theorem s7_itemLine {u : Nat → Nat} {n b fu : Nat} {s : ZR} {Z : Nat × Nat × ZL} {t : Nat → Int32} {post : Int32 → Int32 → Int32 → Int32 → Int64 → Int64 → Int32 → Int32 → Int32 → Int64 → Int64 → (Nat → Int32) → Prop} {t_reached t_begin t_sort : Int32} {t_value t_word : Int64} {t_wrongAt t_badAt t_bad : Int32} {t_toldWeight t_toldProfit : Int64} {t_told : Nat → Int32} (ht : z_tx u n t) (hb : b < n) (hT : y_T u n b t_reached t_begin t_sort t_value t_word) (hk2 : (z_tk u n b).1 = 2) (hw : (z_tk u n b).2.2 = 3) (hR : y_R s t_badAt t_bad t_toldWeight t_toldProfit t_told) (hi : z_inv s) (hd : s.1 = 0) (ha : z_ahd s b) (hZ : z_rd u n fu b s = Z) (hr : n < b + fu)
    (h1 : ∀ (r t_reached' t_begin' t_sort' : Int32) (t_value' t_word' : Int64) (t_wrongAt' t_badAt' t_bad' : Int32) (t_toldWeight' t_toldProfit' : Int64) (t_told' : Nat → Int32), r = 1 → z_L1 u n Z fu b t_reached' t_begin' t_sort' t_value' t_word' t_badAt' t_bad' t_toldWeight' t_toldProfit' t_told' → post r t_reached' t_begin' t_sort' t_value' t_word' t_wrongAt' t_badAt' t_bad' t_toldWeight' t_toldProfit' t_told') (h0 : ∀ (r t_reached' t_begin' t_sort' : Int32) (t_value' t_word' : Int64) (t_wrongAt' t_badAt' t_bad' : Int32) (t_toldWeight' t_toldProfit' : Int64) (t_told' : Nat → Int32), r = 0 → Z.1 = 1 → t_wrongAt' = nI Z.2.1 → Z.2.1 ≤ n → post r t_reached' t_begin' t_sort' t_value' t_word' t_wrongAt' t_badAt' t_bad' t_toldWeight' t_toldProfit' t_told') :
    wX7_itemLine (nI n) t post t_reached t_begin t_sort t_value t_word t_wrongAt t_badAt t_bad t_toldWeight t_toldProfit t_told := by
  have hn := ht.1
  obtain ⟨rfl, rfl, hg, q, hq, hq60⟩ := hR
  have hre := y_T_re hT hb
  obtain ⟨sN, esN⟩ : ∃ sN : ZR, sN = (if 60 ≤ s.2.2.2.2.1 then z_note 3 b s else s) := ⟨_, rfl⟩
  have hact : z_act (z_tk u n b).1 b (z_tk u n b).2.2 s = some (3, sN.2) := by
    rw [hk2, hw, esN]
    unfold z_act z_word
    rw [if_pos rfl, if_pos hd]
    rfl
  have hi1 := z_act_inv (by omega) hi hact
  obtain ⟨fu1, rfl, hZ1, hr1, hb1, hb1n⟩ := z_rd_some hr hb hZ hact
  have he := z_tk_end (u := u) hb
  obtain ⟨n1, n2, n3, n4, n5, n6⟩ := z_note_2 3 b s
  have sN2 : sN.2.1 = s.2.1 ∧ sN.2.2.2.2 = s.2.2.2.2 := by
    rw [esN]
    split
    · exact ⟨n2, n3⟩
    · exact ⟨rfl, rfl⟩
  have sNf : sN.2.2.1 = 0 → s.2.2.1 = 0 ∧ q < 60 := fun h => by
    rw [esN] at h
    by_cases g : 60 ≤ s.2.2.2.2.1
    · rw [if_pos g] at h
      exact absurd h (n4 (by omega))
    · rw [if_neg g] at h
      have := (hg h).1.1
      rw [hq, nI_eq (by omega) (by omega)] at this
      exact ⟨h, by omega⟩
  have sNa : ∀ b', b < b' → z_ahd sN b' := fun b' hb' => by
    rw [esN]
    split
    · exact z_note_ahd ha hb'
    · exact fun g => by have := ha g; omega
  obtain ⟨b1, eb1⟩ : ∃ x, z_en (fun i => z_bl (u i)) n (z_tk u n b).2.1 = x := ⟨_, rfl⟩
  rw [eb1] at hZ1 hr1 hb1 hb1n
  have main : ∀ v1 : Int32, (v1 = 0 → ¬ sN.2.2.1 = 0) → (¬ v1 = 0 → q < 60) → wX7_itemLine_30 (nI n) t post t_reached t_begin t_sort t_value t_word t_wrongAt (z_fp sN) (nI sN.2.2.1) t_toldWeight t_toldProfit t_told v1 := by
    intro v1 hv0 hv1
    unfold wX7_itemLine_30
    rw [hre]
    refine s7_token ht he.2 (fun re1 be1 so1 va1 wo1 hT1 => ?_)
    rw [eb1] at hT1
    unfold wX7_itemLine_34
    have hfail1 : ¬ (b1 < n ∧ (z_tk u n b1).1 = 3) → Z.1 = 1 ∧ Z.2.1 = b1 := fun g => z_rd_none (s := (3, sN.2)) hr1 hb1n (by show ¬ (3 : Nat) = 0; omega) hZ1 (fun hlt => z_act_no3 (fun h => g ⟨hlt, h⟩) (by show ¬ (3 : Nat) = 0; omega) (by show ¬ (3 : Nat) = 5; omega))
    refine s7_takesPart (s := (3, sN.2)) (sum := z_sm sN.2.2.2.2.2.1 sN.2.2.2.2.1) hn hb1n hT1 hi1.2.2.2.1 (sNa b1 hb1) (by rw [sN2.2]; exact hi.1.2.2.1) (fun f => by rw [sN2.2]; exact (hg (sNf f).1).2.1) (fun g1 g2 ev => ?_) (fun g => ?_)
    · obtain ⟨v, ev0⟩ : ∃ v, (z_tk u n b1).2.2 = v := ⟨_, rfl⟩
      have hv := z_tk_val g1 g2
      have hact1 : z_act (z_tk u n b1).1 b1 (z_tk u n b1).2.2 (3, sN.2) = some (4, v, (z_nit b1 v (z_sm sN.2.2.2.2.2.1 sN.2.2.2.2.1) (3, sN.2)).2.2) := by
        rw [z_act_is3 g2, ev0]
        rfl
      have hi2 := z_act_inv (by omega) hi1 hact1
      obtain ⟨fu2, rfl, hZ2, hr2, hb2, hb2n⟩ := z_rd_some hr1 g1 hZ1 hact1
      have he1 := z_tk_end (u := u) g1
      have hre1 := y_T_re hT1 g1
      obtain ⟨b2, eb2⟩ : ∃ x, z_en (fun i => z_bl (u i)) n (z_tk u n b1).2.1 = x := ⟨_, rfl⟩
      rw [eb2] at hZ2 hr2 hb2 hb2n
      rw [ev0] at ev hv ⊢
      have hahd2 : z_ahd (z_nit b1 v (z_sm sN.2.2.2.2.2.1 sN.2.2.2.2.1) (3, sN.2)) b2 := z_nit_ahd (s := (3, sN.2)) (sNa b1 hb1) hb2
      obtain ⟨c1, c2, c3, c4, c5, c6⟩ := z_nit_2 b1 v (z_sm sN.2.2.2.2.2.1 sN.2.2.2.2.1) (3, sN.2)
      generalize z_nit b1 v (z_sm sN.2.2.2.2.2.1 sN.2.2.2.2.1) (3, sN.2) = sA at hi2 hZ2 hahd2 c1 c2 c3 c4 c5 c6 ⊢
      have c3' : sA.2.2.2.2 = s.2.2.2.2 := c3.trans sN2.2
      refine ⟨fun z => absurd z (by decide), fun _ => ?_⟩
      have cont : ∀ w : Nat, ((1 ≤ v ∧ v ≤ 999999999) → w = v) → wX7_itemLine_69 (nI n) t post re1 be1 so1 (lN v) wo1 t_wrongAt (z_fp sA) (nI sA.2.2.1) t_toldWeight t_toldProfit t_told v1 (lN w) := by
        intro w hww
        unfold wX7_itemLine_69
        rw [hre1]
        refine s7_token ht he1.2 (fun re2 be2 so2 va2 wo2 hT2 => ?_)
        rw [eb2] at hT2
        unfold wX7_itemLine_74
        have hfail2 : ¬ (b2 < n ∧ (z_tk u n b2).1 = 3) → Z.1 = 1 ∧ Z.2.1 = b2 := fun g => z_rd_none (s := (4, v, sA.2.2)) hr2 hb2n (by show ¬ (4 : Nat) = 0; omega) hZ2 (fun hlt => z_act_no3 (fun h => g ⟨hlt, h⟩) (by show ¬ (4 : Nat) = 0; omega) (by show ¬ (4 : Nat) = 5; omega))
        refine s7_takesPart (s := (4, v, sA.2.2)) (sum := z_sm sA.2.2.2.2.2.2.1 sA.2.2.2.2.1) hn hb2n hT2 hi2.2.2.2.1 hahd2 (by rw [c3']; exact hi.1.2.2.2.1) (fun f => by rw [c3']; exact (hg (sNf (c4 f).1).1).2.2) (fun g3 g4 ev2 => ?_) (fun g => ?_)
        · obtain ⟨v', ev0'⟩ : ∃ v', (z_tk u n b2).2.2 = v' := ⟨_, rfl⟩
          have hv' := z_tk_val g3 g4
          have hact2 : z_act (z_tk u n b2).1 b2 (z_tk u n b2).2.2 (4, v, sA.2.2) = some (5, (z_pt v' (z_nit b2 v' (z_sm sA.2.2.2.2.2.2.1 sA.2.2.2.2.1) (4, v, sA.2.2))).2) := by
            rw [z_act_is3 g4, ev0']
            rfl
          have hi3 := z_act_inv (by omega) hi2 hact2
          obtain ⟨fu3, rfl, hZ3, hr3, hb3, hb3n⟩ := z_rd_some hr2 g3 hZ2 hact2
          have he2 := z_tk_end (u := u) g3
          have hre2 := y_T_re hT2 g3
          obtain ⟨b3, eb3⟩ : ∃ x, z_en (fun i => z_bl (u i)) n (z_tk u n b2).2.1 = x := ⟨_, rfl⟩
          rw [eb3] at hZ3 hr3 hb3 hb3n
          rw [ev0'] at ev2 hv' ⊢
          have hahd3 : z_ahd (z_nit b2 v' (z_sm sA.2.2.2.2.2.2.1 sA.2.2.2.2.1) (4, v, sA.2.2)) b3 := z_nit_ahd (s := (4, v, sA.2.2)) hahd2 hb3
          obtain ⟨d1, d2, d3, d4, d5, d6⟩ := z_nit_2 b2 v' (z_sm sA.2.2.2.2.2.2.1 sA.2.2.2.2.1) (4, v, sA.2.2)
          generalize z_nit b2 v' (z_sm sA.2.2.2.2.2.2.1 sA.2.2.2.2.1) (4, v, sA.2.2) = sB at hi3 hZ3 hahd3 d1 d2 d3 d4 d5 d6 ⊢
          have d3' : sB.2.2.2.2 = s.2.2.2.2 := d3.trans c3'
          obtain ⟨p1, p2⟩ := z_pt_f (v := v') (s := sB)
          refine ⟨fun z => absurd z (by decide), fun _ => ?_⟩
          have cont2 : ∀ w' : Nat, ((1 ≤ v' ∧ v' ≤ 999999999) → w' = v') → wX7_itemLine_109 (nI n) t post re2 be2 so2 (lN v') wo2 t_wrongAt (z_fp sB) (nI sB.2.2.1) t_toldWeight t_toldProfit t_told v1 (lN w) (lN w') := by
            intro w' hww'
            unfold wX7_itemLine_109
            rw [hre2]
            refine s7_token ht he2.2 (fun re3 be3 so3 va3 wo3 hT3 => ?_)
            rw [eb3] at hT3
            have hahd4 : z_ahd (5, (z_pt v' sB).2) b3 := fun g => by
              have g' : ¬ (z_pt v' sB).2.2.1 = 0 := g
              rw [p1] at g'
              show (z_pt v' sB).2.2.2.1 < b3
              rw [p2]
              exact hahd3 g'
            have efp : z_fp sB = z_fp (5, (z_pt v' sB).2) := z_fp_2 p1.symm p2.symm
            unfold wX7_itemLine_115
            refine ⟨fun z => ?_, fun z => ?_⟩
            · refine h1 _ _ _ _ _ _ _ _ _ _ _ _ rfl ⟨fu3, b3, (5, (z_pt v' sB).2), by omega, by omega, hb3n, hr3, rfl, hi3, hT3, ⟨?_, efp, fun f => ?_, q, hq, hq60⟩, hahd4, hZ3⟩
              · show nI sB.2.2.1 = nI (z_pt v' sB).2.2.1
                rw [p1]
              · have f' : (z_pt v' sB).2.2.1 = 0 := f
                rw [p1] at f'
                exact absurd (c4 (d4 f').1).1 (hv0 z)
            · have q60 := hv1 z
              rw [show ((0 : Int32)).toNatClampNeg = 0 from rfl, hq, show (4 : Int32) = nI 4 from rfl, nI_add, nI_clamp (by omega), pk_un (show 0 ≠ 4 + q by omega), hq, show (64 : Int32) = nI 64 from rfl, nI_add, nI_clamp (by omega), pk_un (show 0 ≠ 64 + q by omega), pk_un (show 0 ≠ 4 + q by omega), hq, show (1 : Int32) = nI 1 from rfl, nI_add, lN_i, lN_i]
              refine ⟨vp_in_nI (by omega) (by omega), vp_in_nI (by omega) (by omega), h1 _ _ _ _ _ _ _ _ _ _ _ _ rfl ⟨fu3, b3, (5, (z_pt v' sB).2), by omega, by omega, hb3n, hr3, rfl, hi3, hT3, ⟨?_, efp, fun f => ?_, q + 1, pk_us, by omega⟩, hahd4, hZ3⟩⟩
              · show nI sB.2.2.1 = nI (z_pt v' sB).2.2.1
                rw [p1]
              · have f' : (z_pt v' sB).2.2.1 = 0 := f
                rw [p1] at f'
                obtain ⟨fA, ⟨r1, r2⟩, r3⟩ := d4 f'
                obtain ⟨fN, ⟨r4, r5⟩, r6⟩ := c4 fA
                obtain ⟨fs, _⟩ := sNf fN
                obtain ⟨y1, y2, y3⟩ := hg fs
                have hnq : s.2.2.2.2.1 = q := by
                  have := y1.1
                  rw [hq, nI_eq (by omega) (by have := hi.1.1; omega)] at this
                  exact this.symm
                have eput : z_pt v' sB = z_put v' sB := by unfold z_pt; rw [if_pos f']
                have hB1 : sB.2.1 = v := d2
                have ew := hww ⟨r4, r5⟩
                have ew' := hww' ⟨r1, r2⟩
                have eload : ((5, (z_pt v' sB).2) : ZR).2.2.2.2 = (q + 1, z_up s.2.2.2.2.2.1 q v, z_up s.2.2.2.2.2.2.1 q v', s.2.2.2.2.2.2.2) := by
                  show (z_pt v' sB).2.2.2.2 = _
                  rw [eput]
                  show (sB.2.2.2.2.1 + 1, z_up sB.2.2.2.2.2.1 sB.2.2.2.2.1 sB.2.1, z_up sB.2.2.2.2.2.2.1 sB.2.2.2.2.1 v', sB.2.2.2.2.2.2.2) = _
                  rw [d3', hB1, hnq]
                rw [eload, ew, ew']
                refine ⟨y_told_put hnq q60 y1, ?_, ?_⟩
                · rw [y2, lN_add, hnq]
                  show _ = lN (z_sm (z_up s.2.2.2.2.2.1 q v) (q + 1))
                  rw [z_sm_new]
                · rw [y3, lN_add, hnq]
                  show _ = lN (z_sm (z_up s.2.2.2.2.2.2.1 q v') (q + 1))
                  rw [z_sm_new]
          rw [ev2]
          refine l_in (a := 1) (b := 999999999) (by omega) (by omega) (by omega) (fun qq => ?_) (fun qq => ?_)
          · exact ⟨fun z => absurd z (by decide), fun _ => cont2 v' (fun _ => rfl)⟩
          · exact ⟨fun _ => cont2 0 (fun h => absurd h qq), fun z => absurd rfl z⟩
        · exact ⟨fun _ => h0 _ _ _ _ _ _ _ _ _ _ _ _ rfl (hfail2 g).1 (by rw [(hfail2 g).2]) (by rw [(hfail2 g).2]; exact hb2n), fun z => absurd rfl z⟩
      rw [ev]
      refine l_in (a := 1) (b := 999999999) (by omega) (by omega) (by omega) (fun qq => ?_) (fun qq => ?_)
      · exact ⟨fun z => absurd z (by decide), fun _ => cont v (fun _ => rfl)⟩
      · exact ⟨fun _ => cont 0 (fun h => absurd h qq), fun z => absurd rfl z⟩
    · exact ⟨fun _ => h0 _ _ _ _ _ _ _ _ _ _ _ _ rfl (hfail1 g).1 (by rw [(hfail1 g).2]) (by rw [(hfail1 g).2]; exact hb1n), fun z => absurd rfl z⟩
  unfold wX7_itemLine
  rw [show ((0 : Int32)).toNatClampNeg = 0 from rfl, hq, show (60 : Int32) = nI 60 from rfl, nI_leI (by omega) (by omega)]
  have noted : 60 ≤ q → z_fp (z_note 3 b s) = z_fp sN ∧ (z_note 3 b s).2.2.1 = sN.2.2.1 := fun h => by
    by_cases f : s.2.2.1 = 0
    · have := (hg f).1.1
      rw [hq, nI_eq (by omega) (by have := hi.1.1; omega)] at this
      rw [esN, if_pos (by omega)]
      exact ⟨rfl, rfl⟩
    · rw [esN, z_note_bad f]
      split
      · exact ⟨rfl, rfl⟩
      · exact ⟨rfl, rfl⟩
  have same : ¬ 60 ≤ q → z_fp s = z_fp sN ∧ s.2.2.1 = sN.2.2.1 := fun h => by
    by_cases f : s.2.2.1 = 0
    · have := (hg f).1.1
      rw [hq, nI_eq (by omega) (by have := hi.1.1; omega)] at this
      rw [esN, if_neg (by omega)]
      exact ⟨rfl, rfl⟩
    · rw [esN, z_note_bad f]
      split
      · exact ⟨rfl, rfl⟩
      · exact ⟨rfl, rfl⟩
  refine ⟨fun g => ?_, fun g => ?_⟩
  · refine ⟨fun _ => ?_, fun z => absurd rfl z⟩
    rw [hT.1]
    refine s7_isBad (k := 3) hi.2.2.2.1 (by omega) ha (by omega) ?_
    rw [(noted g).1, (noted g).2, ← hT.1]
    exact main 0 (fun _ h => by have := (sNf h).2; omega) (fun z => absurd rfl z)
  · refine ⟨fun z => absurd z (by decide), fun _ => ?_⟩
    rw [(same g).1, (same g).2]
    exact main 1 (fun z => absurd z (by decide)) (fun _ => by omega)
theorem s7_line {u : Nat → Nat} {n b fu : Nat} {s : ZR} {Z : Nat × Nat × ZL} {t : Nat → Int32} {post : Int32 → Int32 → Int32 → Int32 → Int64 → Int64 → Int32 → Int32 → Int32 → Int64 → Int64 → (Nat → Int32) → Prop} {t_reached t_begin t_sort : Int32} {t_value t_word : Int64} {t_wrongAt t_badAt t_bad : Int32} {t_toldWeight t_toldProfit : Int64} {t_told : Nat → Int32} (ht : z_tx u n t) (hb : b < n) (hT : y_T u n b t_reached t_begin t_sort t_value t_word) (hR : y_R s t_badAt t_bad t_toldWeight t_toldProfit t_told) (hi : z_inv s) (hd : s.1 = 0) (ha : z_ahd s b) (hZ : z_rd u n fu b s = Z) (hr : n < b + fu)
    (h1 : ∀ (r t_reached' t_begin' t_sort' : Int32) (t_value' t_word' : Int64) (t_wrongAt' t_badAt' t_bad' : Int32) (t_toldWeight' t_toldProfit' : Int64) (t_told' : Nat → Int32), r = 1 → z_L1 u n Z fu b t_reached' t_begin' t_sort' t_value' t_word' t_badAt' t_bad' t_toldWeight' t_toldProfit' t_told' → post r t_reached' t_begin' t_sort' t_value' t_word' t_wrongAt' t_badAt' t_bad' t_toldWeight' t_toldProfit' t_told') (h0 : ∀ (r t_reached' t_begin' t_sort' : Int32) (t_value' t_word' : Int64) (t_wrongAt' t_badAt' t_bad' : Int32) (t_toldWeight' t_toldProfit' : Int64) (t_told' : Nat → Int32), r = 0 → Z.1 = 1 → t_wrongAt' = nI Z.2.1 → Z.2.1 ≤ n → post r t_reached' t_begin' t_sort' t_value' t_word' t_wrongAt' t_badAt' t_bad' t_toldWeight' t_toldProfit' t_told') :
    wX7_line (nI n) t post t_reached t_begin t_sort t_value t_word t_wrongAt t_badAt t_bad t_toldWeight t_toldProfit t_told := by
  have hn := ht.1
  have hso := y_T_sort hT 2 (by omega)
  have hre := y_T_re hT hb
  have he := z_tk_end (u := u) hb
  have hkind := z_tk_kind (u := u) (n := n) (b := b)
  -- what can not stand at a line's begin
  have bad : z_act (z_tk u n b).1 b (z_tk u n b).2.2 s = none → Z.1 = 1 ∧ Z.2.1 = b := fun h => by
    obtain ⟨r', rfl⟩ : ∃ r', fu = r' + 1 := ⟨fu - 1, by omega⟩
    rw [z_rd_s hb, h] at hZ
    rw [← hZ]
    exact ⟨rfl, rfl⟩
  have failed : z_act (z_tk u n b).1 b (z_tk u n b).2.2 s = none → ∀ k0 : Int64, ¬ k0 = 1769235821 → ¬ k0 = 1919905645 → ¬ k0 = 1836020596 → wX7_line_16 (nI n) t post t_reached t_begin t_sort t_value t_word t_wrongAt t_badAt t_bad t_toldWeight t_toldProfit t_told k0 := fun h k0 q1 q2 q3 => by
    unfold wX7_line_16 wX7_fails
    refine ⟨fun z => absurd z q1, fun _ => ⟨fun z => absurd z q2, fun _ => ⟨fun z => absurd z q3, fun _ => ⟨rfl, ?_⟩⟩⟩⟩
    rw [hT.1]
    exact h0 _ _ _ _ _ _ _ _ _ _ _ _ rfl (bad h).1 (by rw [(bad h).2]) (by rw [(bad h).2]; omega)
  unfold wX7_line
  rw [show (2 : Int32) = nI 2 from rfl, hso]
  refine ⟨fun g => ?_, fun g => ?_⟩
  · have hW : y_W (z_tk u n b).2.2 t_word := by
      rcases hT.2 with ⟨z, _⟩ | ⟨_, _, _, _, z⟩
      · exact absurd hb z
      · exact z g.2
    obtain ⟨w3, w1, w2⟩ := hW
    by_cases k3 : (z_tk u n b).2.2 = 3
    · unfold wX7_line_16
      refine ⟨fun _ => ?_, fun z => absurd (w3.mpr k3) z⟩
      refine s7_itemLine ht hb hT g.2 k3 hR hi hd ha hZ hr (fun r a1 a2 a3 a4 a5 a6 a7 a8 a9 a10 a11 er hL => ⟨?_, h1 _ _ _ _ _ _ _ _ _ _ _ _ er hL⟩) (fun r a1 a2 a3 a4 a5 a6 a7 a8 a9 a10 a11 er z1 z2 z3 => ⟨?_, h0 _ _ _ _ _ _ _ _ _ _ _ _ er z1 z2 z3⟩)
      · rw [er]; rfl
      · rw [er]; rfl
    · by_cases k12 : (z_tk u n b).2.2 = 1 ∨ (z_tk u n b).2.2 = 2
      · -- room, most
        obtain ⟨w, ew⟩ : ∃ w, (z_tk u n b).2.2 = w := ⟨_, rfl⟩
        rw [ew] at k12 k3 w3 w1 w2
        have hact : z_act (z_tk u n b).1 b (z_tk u n b).2.2 s = some (w, s.2) := by
          rw [g.2, ew]
          unfold z_act z_word
          rw [if_pos rfl, if_pos hd]
          rcases k12 with rfl | rfl
          · rfl
          · rfl
        have hi1 := z_act_inv (by omega) hi hact
        obtain ⟨fu1, rfl, hZ1, hr1, hb1, hb1n⟩ := z_rd_some hr hb hZ hact
        obtain ⟨b1, eb1⟩ : ∃ x, z_en (fun i => z_bl (u i)) n (z_tk u n b).2.1 = x := ⟨_, rfl⟩
        rw [eb1] at hZ1 hr1 hb1 hb1n
        have hahd1 : z_ahd s b1 := fun z => by have := ha z; omega
        obtain ⟨rfl, rfl, hg, q, hq, hq60⟩ := hR
        have main : wX7_line_51 (nI n) t post t_reached t_begin t_sort t_value t_word t_wrongAt (z_fp s) (nI s.2.2.1) t_toldWeight t_toldProfit t_told t_word := by
          unfold wX7_line_51
          rw [hre]
          refine s7_token ht he.2 (fun re1 be1 so1 va1 wo1 hT1 => ?_)
          rw [eb1] at hT1
          have w0 : ¬ w = 0 ∧ ¬ w = 5 := by omega
          have hfail1 : ¬ (b1 < n ∧ (z_tk u n b1).1 = 3) → Z.1 = 1 ∧ Z.2.1 = b1 := fun g => z_rd_none (s := (w, s.2)) hr1 hb1n w0.1 hZ1 (fun hlt => z_act_no3 (fun h => g ⟨hlt, h⟩) w0.1 w0.2)
          -- behind a number
          have fin : ∀ (lo hi' i : Nat) (K : Nat → ZR → ZR), (i = 1 ∨ i = 2) → b1 < n → (z_tk u n b1).1 = 3 → va1 = lN (z_tk u n b1).2.2 → z_num b1 (z_tk u n b1).2.2 (w, s.2) = some (5, (if lo ≤ (z_tk u n b1).2.2 ∧ (z_tk u n b1).2.2 ≤ hi' then K (z_tk u n b1).2.2 (w, s.2) else z_note 2 b1 (w, s.2)).2) → (∀ v, (K v (w, s.2)).2.2.1 = s.2.2.1 ∧ (K v (w, s.2)).2.2.2.1 = s.2.2.2.1) → (∀ v, y_L s.2.2.2.2 t_told → y_L (K v (w, s.2)).2.2.2.2 (upd t_told i (nI v)) ∧ (K v (w, s.2)).2.2.2.2.1 = s.2.2.2.2.1 ∧ (K v (w, s.2)).2.2.2.2.2.1 = s.2.2.2.2.2.1 ∧ (K v (w, s.2)).2.2.2.2.2.2.1 = s.2.2.2.2.2.2.1) → ∀ wrongAt : Int32,
              wX7_line_109 (nI n) t post re1 be1 so1 va1 wo1 wrongAt (z_fp (if lo ≤ (z_tk u n b1).2.2 ∧ (z_tk u n b1).2.2 ≤ hi' then (w, s.2) else z_note 2 b1 (w, s.2))) (nI (if lo ≤ (z_tk u n b1).2.2 ∧ (z_tk u n b1).2.2 ≤ hi' then (w, s.2) else z_note 2 b1 (w, s.2)).2.2.1) t_toldWeight t_toldProfit t_told (nI i) := by
            intro lo hi' i K hi12 g1 g2 ev hnum hKf hKL wrongAt
            have hact1 : z_act (z_tk u n b1).1 b1 (z_tk u n b1).2.2 (w, s.2) = some (5, (if lo ≤ (z_tk u n b1).2.2 ∧ (z_tk u n b1).2.2 ≤ hi' then K (z_tk u n b1).2.2 (w, s.2) else z_note 2 b1 (w, s.2)).2) := by rw [z_act_is3 g2, hnum]
            have hi2 := z_act_inv (by omega) hi1 hact1
            obtain ⟨fu2, rfl, hZ2, hr2, hb2, hb2n⟩ := z_rd_some hr1 g1 hZ1 hact1
            have he1 := z_tk_end (u := u) g1
            have hre1 := y_T_re hT1 g1
            obtain ⟨b2, eb2⟩ : ∃ x, z_en (fun i => z_bl (u i)) n (z_tk u n b1).2.1 = x := ⟨_, rfl⟩
            rw [eb2] at hZ2 hr2 hb2 hb2n
            unfold wX7_line_109
            rw [hre1, nI_clamp (by omega), ev, lN_i]
            refine ⟨vp_in_nI (by omega) (by omega), s7_token ht he1.2 (fun re2 be2 so2 va2 wo2 hT2 => ?_)⟩
            rw [eb2] at hT2
            obtain ⟨m1, m2, m3, m4, m5, m6⟩ := z_note_2 2 b1 (w, s.2)
            have hmany : ∃ q', upd t_told i (nI (z_tk u n b1).2.2) 0 = nI q' ∧ q' ≤ 60 := ⟨q, by rw [pk_un (by omega)]; exact hq, hq60⟩
            refine h1 _ _ _ _ _ _ _ _ _ _ _ _ rfl ⟨fu2, b2, _, by omega, by omega, hb2n, hr2, rfl, hi2, hT2, ?_, ?_, hZ2⟩
            · by_cases qq : lo ≤ (z_tk u n b1).2.2 ∧ (z_tk u n b1).2.2 ≤ hi'
              · rw [if_pos qq, if_pos qq]
                refine ⟨?_, ?_, fun f => ?_, hmany⟩
                · show nI s.2.2.1 = nI (K (z_tk u n b1).2.2 (w, s.2)).2.2.1
                  rw [(hKf _).1]
                · exact z_fp_2 (hKf _).1.symm (hKf _).2.symm
                · have f' : (K (z_tk u n b1).2.2 (w, s.2)).2.2.1 = 0 := f
                  rw [(hKf _).1] at f'
                  obtain ⟨y1, y2, y3⟩ := hg f'
                  obtain ⟨o1, o2, o3, o4⟩ := hKL (z_tk u n b1).2.2 y1
                  refine ⟨o1, ?_, ?_⟩
                  · show _ = lN (z_sm (K (z_tk u n b1).2.2 (w, s.2)).2.2.2.2.2.1 (K (z_tk u n b1).2.2 (w, s.2)).2.2.2.2.1)
                    rw [o2, o3]
                    exact y2
                  · show _ = lN (z_sm (K (z_tk u n b1).2.2 (w, s.2)).2.2.2.2.2.2.1 (K (z_tk u n b1).2.2 (w, s.2)).2.2.2.2.1)
                    rw [o2, o4]
                    exact y3
              · rw [if_neg qq, if_neg qq]
                refine ⟨rfl, z_fp_2 rfl rfl, fun f => absurd f (m4 (by omega)), hmany⟩
            · by_cases qq : lo ≤ (z_tk u n b1).2.2 ∧ (z_tk u n b1).2.2 ≤ hi'
              · rw [if_pos qq]
                intro f
                have f' : ¬ (K (z_tk u n b1).2.2 (w, s.2)).2.2.1 = 0 := f
                rw [(hKf _).1] at f'
                show (K (z_tk u n b1).2.2 (w, s.2)).2.2.2.1 < b2
                rw [(hKf _).2]
                have := ha f'
                omega
              · rw [if_neg qq]
                exact z_note_ahd (s := (w, s.2)) (b := b1) hahd1 hb2
          unfold wX7_line_55
          refine ⟨fun q1 => ?_, fun q1 => ?_⟩
          · have ew1 : w = 1 := w1.mp q1
            refine s7_takes (s := (w, s.2)) (lo := 0) (hi := 2000000000) hn hb1n hT1 hi1.2.2.2.1 hahd1 (by omega) (by omega) (fun g1 g2 ev => ?_) (fun g => ?_)
            · refine ⟨fun z => absurd z (by decide), fun _ => ?_⟩
              unfold wX7_line_92
              refine ⟨fun _ => ?_, fun z => absurd q1 z⟩
              refine fin 0 2000000000 1 z_lR (Or.inl rfl) g1 g2 ev ?_ (fun v => ⟨rfl, rfl⟩) (fun v hL => ?_) _
              · unfold z_num
                rw [if_pos (show ((w, s.2) : ZR).1 = 1 from ew1)]
                by_cases qq : (z_tk u n b1).2.2 ≤ 2000000000
                · rw [if_pos qq, if_pos ⟨Nat.zero_le _, qq⟩]
                · rw [if_neg qq, if_neg (fun z => qq z.2)]
              · obtain ⟨a0, a1, a2, a3, a4⟩ := hL
                exact ⟨⟨by rw [pk_un (by omega)]; exact a0, pk_us, by rw [pk_un (by omega)]; exact a2, by rw [pk_un (by omega)]; exact a3, fun k hk => by rw [pk_un (by omega), pk_un (by omega)]; exact a4 k hk⟩, rfl, rfl, rfl⟩
            · exact ⟨fun _ => h0 _ _ _ _ _ _ _ _ _ _ _ _ rfl (hfail1 g).1 (by rw [(hfail1 g).2]) (by rw [(hfail1 g).2]; exact hb1n), fun z => absurd rfl z⟩
          · have ew2 : w = 2 := by
              rcases k12 with h | h
              · exact absurd (w1.mpr h) q1
              · exact h
            refine s7_takes (s := (w, s.2)) (lo := 2) (hi := 1000) hn hb1n hT1 hi1.2.2.2.1 hahd1 (by omega) (by omega) (fun g1 g2 ev => ?_) (fun g => ?_)
            · refine ⟨fun z => absurd z (by decide), fun _ => ?_⟩
              unfold wX7_line_92
              refine ⟨fun z => absurd z q1, fun _ => ?_⟩
              refine fin 2 1000 2 z_lM (Or.inr rfl) g1 g2 ev ?_ (fun v => ⟨rfl, rfl⟩) (fun v hL => ?_) _
              · unfold z_num
                rw [if_neg (show ¬ ((w, s.2) : ZR).1 = 1 by show ¬ w = 1; omega), if_pos (show ((w, s.2) : ZR).1 = 2 from ew2)]
              · obtain ⟨a0, a1, a2, a3, a4⟩ := hL
                exact ⟨⟨by rw [pk_un (by omega)]; exact a0, by rw [pk_un (by omega)]; exact a1, pk_us, by rw [pk_un (by omega)]; exact a3, fun k hk => by rw [pk_un (by omega), pk_un (by omega)]; exact a4 k hk⟩, rfl, rfl, rfl⟩
            · exact ⟨fun _ => h0 _ _ _ _ _ _ _ _ _ _ _ _ rfl (hfail1 g).1 (by rw [(hfail1 g).2]) (by rw [(hfail1 g).2]; exact hb1n), fun z => absurd rfl z⟩
        unfold wX7_line_16
        refine ⟨fun z => absurd (w3.mp z) k3, fun _ => ⟨fun _ => main, fun q1 => ⟨fun _ => main, fun q2 => ?_⟩⟩⟩
        rcases k12 with h | h
        · exact absurd (w1.mpr h) q1
        · exact absurd (w2.mpr h) q2
      · refine failed ?_ _ (fun z => k3 (w3.mp z)) (fun z => k12 (Or.inl (w1.mp z))) (fun z => k12 (Or.inr (w2.mp z)))
        rw [g.2]
        unfold z_act z_word
        rw [if_pos rfl, if_pos hd, if_neg (fun z => k12 (Or.inl z)), if_neg (fun z => k12 (Or.inr z)), if_neg k3]
  · refine failed ?_ 0 (by decide) (by decide) (by decide)
    unfold z_act
    rw [if_neg (fun z => g ⟨hb, z⟩)]
    unfold z_num
    rw [if_neg (show ¬ s.1 = 1 by omega), if_neg (show ¬ s.1 = 2 by omega), if_neg (show ¬ s.1 = 3 by omega), if_neg (show ¬ s.1 = 4 by omega), if_neg (show ¬ s.1 = 5 by omega)]
    split
    · rfl
    · split
      · rfl
      · rfl
theorem z_rd_end {u : Nat → Nat} {n r p : Nat} {s : ZR} (hp : ¬ p < n) (hs : s.1 = 0) : z_rd u n (r + 1) p s = (s.2.2.1, s.2.2.2.1, s.2.2.2.2) := by
  show (if p < n then _ else _) = _
  rw [if_neg hp, if_pos hs]
theorem z_act_no4 {u : Nat → Nat} {n b : Nat} {s : ZR} (h4 : ¬ (z_tk u n b).1 = 4) (h5 : s.1 = 5) : z_act (z_tk u n b).1 b (z_tk u n b).2.2 s = none := by
  unfold z_act z_word z_num
  rw [if_neg h4, if_neg (show ¬ s.1 = 0 by omega), if_neg (show ¬ s.1 = 1 by omega), if_neg (show ¬ s.1 = 2 by omega), if_neg (show ¬ s.1 = 3 by omega), if_neg (show ¬ s.1 = 4 by omega)]
  split
  · rfl
  · split
    · rfl
    · rfl
theorem z_act_is4 {u : Nat → Nat} {n b : Nat} {s : ZR} (h4 : (z_tk u n b).1 = 4) (h5 : s.1 = 5) : z_act (z_tk u n b).1 b (z_tk u n b).2.2 s = some (0, s.2) := by
  unfold z_act
  rw [if_neg (by omega), if_neg (by omega), if_pos h4, if_pos h5]
theorem s7_read {u : Nat → Nat} {n : Nat} {t_text : Nat → Int32} {post : Int32 → Int32 → Int32 → Int32 → Int32 → Int32 → Int32 → Int64 → Int64 → Int32 → Int32 → Int32 → Int64 → Int64 → (Nat → Int32) → (Nat → Int32) → Prop} {t_raised t_undos t_reached t_length t_begin t_sort : Int32} {t_value t_word : Int64} {t_wrongAt t_badAt t_bad : Int32} {t_toldWeight t_toldProfit : Int64} {t_all t_told : Nat → Int32} (ht : z_tx u n t_text) (h124 : t_all 124 = nI n)
    (h1 : (z_read u n).1 = 0 → ∀ (r t_raised' t_undos' t_reached' t_length' t_begin' t_sort' : Int32) (t_value' t_word' : Int64) (t_wrongAt' t_badAt' t_bad' : Int32) (t_toldWeight' t_toldProfit' : Int64) (t_all' t_told' : Nat → Int32), r = nI (z_read u n).2.2.1 → t_raised' = 0 → t_undos' = 0 → y_L (z_read u n).2.2 t_all' → t_all' 124 = 0 → t_all' 125 = 0 → t_all' 126 = -1 → (∀ j, 127 ≤ j → t_all' j = t_all j) → post r t_raised' t_undos' t_reached' t_length' t_begin' t_sort' t_value' t_word' t_wrongAt' t_badAt' t_bad' t_toldWeight' t_toldProfit' t_all' t_told')
    (h0 : ¬ (z_read u n).1 = 0 → ∀ (r t_raised' t_undos' t_reached' t_length' t_begin' t_sort' : Int32) (t_value' t_word' : Int64) (t_wrongAt' t_badAt' t_bad' : Int32) (t_toldWeight' t_toldProfit' : Int64) (t_all' t_told' : Nat → Int32), r = -1 → t_raised' = 0 → t_undos' = t_undos → (∀ j, (j < 124 ∨ 127 ≤ j) → t_all' j = t_all j) → t_all' 124 = 0 → t_all' 125 = nI (z_read u n).1 → t_all' 126 = nI (z_read u n).2.1 → post r t_raised' t_undos' t_reached' t_length' t_begin' t_sort' t_value' t_word' t_wrongAt' t_badAt' t_bad' t_toldWeight' t_toldProfit' t_all' t_told') : wX7_read t_text post t_raised t_undos t_reached t_length t_begin t_sort t_value t_word t_wrongAt t_badAt t_bad t_toldWeight t_toldProfit t_all t_told := by
  have hn := ht.1
  have e124 : ((124 : Int32)).toNatClampNeg = 124 := rfl
  have e125 : ((125 : Int32)).toNatClampNeg = 125 := rfl
  have e126 : ((126 : Int32)).toNatClampNeg = 126 := rfl
  have e0 : ((0 : Int32)).toNatClampNeg = 0 := rfl
  -- faults
  have fin0 : ∀ (k : Nat) (at' : Int32) (hk0 : ¬ k = 0) (hk4 : k ≤ 4) (eZ : (z_read u n).1 = k) (eat : at' = nI (z_read u n).2.1) (reached begin sort : Int32) (value word : Int64) (wrongAt badAt bad : Int32) (tW tP : Int64) (told : Nat → Int32),
      wX7_read_177 t_text post 0 t_undos reached (nI n) begin sort value word wrongAt badAt bad tW tP (upd (upd t_all 124 0) 125 (nI k)) told 126 at' := by
    intro k at' hk0 hk4 eZ eat reached begin sort value word wrongAt badAt bad tW tP told
    unfold wX7_read_177
    rw [e125, e126, pk_un (show 125 ≠ 126 by omega), pk_us]
    refine ⟨vp_in_nI (n := 126) (by omega) (by omega), fun z => ?_, fun _ => ?_⟩
    · rw [show (0 : Int32) = nI 0 from rfl, nI_eq (by omega) (by omega)] at z
      exact absurd z hk0
    · refine h0 (by rw [eZ]; exact hk0) _ _ _ _ _ _ _ _ _ _ _ _ _ _ _ _ rfl rfl rfl (fun j hj => ?_) ?_ ?_ ?_
      · rw [pk_un (by omega), pk_un (by omega), pk_un (by omega)]
      · rw [pk_un (by omega), pk_un (by omega), pk_us]
      · rw [pk_un (by omega), pk_us, eZ]
      · rw [pk_us, eat]
  have finX : ∀ (reached begin sort : Int32) (value word : Int64) (wrongAt badAt bad : Int32) (tW tP : Int64) (told : Nat → Int32), (z_read u n).1 = 1 → wrongAt = nI (z_read u n).2.1 →
      wX7_read_137 t_text post 0 t_undos reached (nI n) begin sort value word wrongAt badAt bad tW tP (upd t_all 124 0) told 0 := by
    intro reached begin sort value word wrongAt badAt bad tW tP told eZ eat
    unfold wX7_read_137 wX7_read_155
    refine ⟨fun _ => ⟨vp_in_nI (n := 125) (by omega) (by omega), fun _ => ?_, fun z => absurd rfl z⟩, fun z => absurd rfl z⟩
    rw [e125]
    exact fin0 1 wrongAt (by omega) (by omega) eZ eat _ _ _ _ _ _ _ _ _ _ _
  have finY : ∀ (s : ZR) (reached begin sort : Int32) (value word : Int64) (wrongAt badAt bad : Int32) (tW tP : Int64) (told : Nat → Int32), y_R s badAt bad tW tP told → z_inv s → z_read u n = (s.2.2.1, s.2.2.2.1, s.2.2.2.2) →
      wX7_read_137 t_text post 0 t_undos reached (nI n) begin sort value word wrongAt badAt bad tW tP (upd t_all 124 0) told 1 := by
    intro s reached begin sort value word wrongAt badAt bad tW tP told hR hi eZ
    obtain ⟨rfl, rfl, hg, -⟩ := hR
    have hf4 := hi.2.2.2.1
    unfold wX7_read_137 wX7_read_155
    refine ⟨fun z => absurd z (by decide), fun _ => ⟨vp_in_nI (n := 125) (by omega) (by omega), fun z => absurd z (by decide), fun _ => ?_⟩⟩
    rw [e125]
    by_cases f : s.2.2.1 = 0
    · have efp : z_fp s = -1 := by unfold z_fp; rw [if_pos f]
      rw [efp, f]
      unfold wX7_read_177
      rw [e125, e126, pk_un (show 125 ≠ 126 by omega), pk_us]
      refine ⟨vp_in_nI (n := 126) (by omega) (by omega), fun _ => ?_, fun z => absurd rfl z⟩
      obtain ⟨hL, -, -⟩ := hg f
      have h1' := h1 (by rw [eZ]; exact f)
      rw [eZ] at h1'
      have l60 := hi.1.1
      have key : ∀ (r k : Nat) (a : Nat → Int32), k + r = 124 → (∀ j, j < k → a j = told j) → (∀ j, 124 ≤ j → a j = upd (upd (upd t_all 124 0) 125 (nI 0)) 126 (-1) j) → wX7_read_192 t_text post (r + 1) 0 t_undos reached (nI n) begin sort value word wrongAt (-1) (nI 0) tW tP a told (nI k) := by
        intro r
        induction r with
        | zero =>
          intro k a hk ha1 ha2
          have ek : k = 124 := by omega
          subst ek
          refine ⟨fun _ => ?_, fun z => absurd (by decide) z⟩
          have hLa : y_L s.2.2.2.2 a := hL.congr l60 (fun j hj => ha1 j hj)
          rw [e0]
          refine h1' _ _ _ _ _ _ _ _ _ _ _ _ _ _ _ _ hLa.1 rfl rfl hLa ?_ ?_ ?_ (fun j hj => ?_)
          · rw [ha2 124 (by omega), pk_un (by omega), pk_un (by omega), pk_us]
          · rw [ha2 125 (by omega), pk_un (by omega), pk_us]; rfl
          · rw [ha2 126 (by omega), pk_us]
          · rw [ha2 j (by omega), pk_un (by omega), pk_un (by omega), pk_un (by omega)]
        | succ r ih =>
          intro k a hk ha1 ha2
          refine ⟨fun z => ?_, fun _ => ?_⟩
          · rw [show (124 : Int32) = nI 124 from rfl, nI_leI (by omega) (by omega)] at z
            omega
          · rw [nI_clamp (by omega), show (1 : Int32) = nI 1 from rfl, nI_add]
            refine ⟨vp_in_nI (by omega) (by omega), vp_in_nI (by omega) (by omega), ih (k + 1) _ (by omega) (fun j hj => ?_) (fun j hj => ?_)⟩
            · by_cases e : j = k
              · rw [e, pk_us]
              · rw [pk_un e]
                exact ha1 j (by omega)
            · rw [pk_un (by omega)]
              exact ha2 j hj
      exact ⟨_, key 124 0 _ (by omega) (fun j hj => absurd hj (Nat.not_lt_zero _)) (fun j _ => rfl)⟩
    · have efp : z_fp s = nI (z_read u n).2.1 := by
        unfold z_fp
        rw [if_neg f, eZ]
      exact fin0 s.2.2.1 (z_fp s) f hf4 (by rw [eZ]) efp _ _ _ _ _ _ _ _ _ _ _
  have loop : ∀ (c fu b : Nat) (s : ZR) (reached begin sort : Int32) (value word : Int64) (wrongAt badAt bad : Int32) (tW tP : Int64) (told : Nat → Int32), fu < c → b ≤ n → n < b + fu → s.1 = 0 → z_inv s → y_T u n b reached begin sort value word → y_R s badAt bad tW tP told → z_ahd s b → z_rd u n fu b s = z_read u n →
      wX7_read_93 t_text post c 0 t_undos reached (nI n) begin sort value word wrongAt badAt bad tW tP (upd t_all 124 0) told 1 := by
    intro c
    induction c with
    | zero => intro fu b s _ _ _ _ _ _ _ _ _ _ _ h; omega
    | succ c ih =>
      intro fu b s reached begin sort value word wrongAt badAt bad tW tP told hc hb hr hd hi hT hR ha hZ
      have failed : ∀ (reached begin sort : Int32) (value word : Int64) (wrongAt badAt bad : Int32) (tW tP : Int64) (told : Nat → Int32), (z_read u n).1 = 1 → wrongAt = nI (z_read u n).2.1 → wX7_read_93 t_text post c 0 t_undos reached (nI n) begin sort value word wrongAt badAt bad tW tP (upd t_all 124 0) told 0 := by
        intro reached begin sort value word wrongAt badAt bad tW tP told q1 q2
        obtain ⟨c', rfl⟩ : ∃ c', c = c' + 1 := ⟨c - 1, by omega⟩
        exact ⟨fun _ => finX _ _ _ _ _ _ _ _ _ _ _ q1 q2, fun z => absurd rfl z⟩
      refine ⟨fun z => absurd z (by decide), fun _ => ⟨fun g => ?_, fun g => ?_⟩⟩
      · have hbn : ¬ b < n := fun hlt => by
          have hk := z_tk_kind (u := u) (n := n) (b := b)
          rcases hT.2 with ⟨z, _⟩ | ⟨_, z, _⟩
          · exact z hlt
          · rw [g, show (0 : Int32) = nI 0 from rfl, nI_eq (by omega) (by omega)] at z
            omega
        obtain ⟨fu', rfl⟩ : ∃ fu', fu = fu' + 1 := ⟨fu - 1, by omega⟩
        rw [z_rd_end hbn hd] at hZ
        exact finY s _ _ _ _ _ _ _ _ _ _ _ hR hi hZ.symm
      · have hbn : b < n := by
          rcases hT.2 with ⟨_, z⟩ | ⟨z, _⟩
          · exact absurd z g
          · exact z
        refine s7_line ht hbn hT hR hi hd ha hZ hr (fun rr a1 a2 a3 a4 a5 a6 a7 a8 a9 a10 a11 er hL => ?_) (fun rr a1 a2 a3 a4 a5 a6 a7 a8 a9 a10 a11 er z1 z2 z3 => ?_)
        · subst er
          obtain ⟨fu', b', s', q1, q2, q3, q4, q5, q6, q7, q8, q9, q10⟩ := hL
          have hso := y_T_sort q7 4 (by omega)
          unfold wX7_read_108
          refine ⟨fun z => absurd z (by decide), fun _ => ?_⟩
          rw [show (4 : Int32) = nI 4 from rfl, hso]
          refine ⟨fun g4 => ?_, fun g4 => ?_⟩
          · unfold wX7_read_126
            refine ⟨fun z => absurd z (by decide), fun _ => ?_⟩
            have hact := z_act_is4 g4.2 q5
            have hi' := z_act_inv (by omega) q6 hact
            obtain ⟨fu2, rfl, hZ2, hr2, hb2, hb2n⟩ := z_rd_some q4 g4.1 q10 hact
            rw [y_T_re q7 g4.1]
            refine s7_token ht (z_tk_end (u := u) g4.1).2 (fun re2 be2 so2 va2 wo2 hT2 => ?_)
            unfold wX7_read_134
            exact ih fu2 _ (0, s'.2) _ _ _ _ _ _ _ _ _ _ _ (by omega) hb2n hr2 rfl hi' hT2 q8 (fun z => by have := q9 z; have e : ((0, s'.2) : ZR).2.2.2.1 = s'.2.2.2.1 := rfl; rw [e]; omega) hZ2
          · unfold wX7_fails wX7_read_125 wX7_read_126
            refine ⟨fun _ => ?_, fun z => absurd rfl z⟩
            have hno := z_rd_none (s := s') q4 q3 (by omega) q10 (fun hlt => z_act_no4 (fun h => g4 ⟨hlt, h⟩) q5)
            exact failed _ _ _ _ _ _ _ _ _ _ _ hno.1 (by rw [q7.1, hno.2])
        · subst er
          unfold wX7_read_108 wX7_read_126
          exact ⟨fun _ => ⟨fun _ => failed _ _ _ _ _ _ _ _ _ _ _ z1 z2, fun z => absurd rfl z⟩, fun z => absurd rfl z⟩
  have clear : ∀ (r k : Nat) (told : Nat → Int32), k + r = 124 → (∀ j, j < k → told j = 0) → wX7_read_26 t_text post (r + 1) 0 t_undos t_reached (nI n) t_begin t_sort t_value t_word t_wrongAt t_badAt t_bad t_toldWeight t_toldProfit (upd t_all 124 0) told (nI k) := by
    intro r
    induction r with
    | zero =>
      intro k told hk h
      have ek : k = 124 := by omega
      subst ek
      refine ⟨fun _ => ?_, fun z => absurd (by decide) z⟩
      rw [show (0 : Int32) = nI 0 from rfl]
      have b2 := (z_ru_ok (f := fun i => z_bl (u i)) (n := n) (r := n - 0) (p := 0))
      refine s7_token (p := 0) ht (Nat.zero_le _) (fun re2 be2 so2 va2 wo2 hT2 => ?_)
      refine ⟨n + 2, loop (n + 2) (n + 1) _ (0, 0, 0, 0, 0, fun _ => 0, fun _ => 0, 100, 400, 0) _ _ _ _ _ _ _ _ _ _ _ (by omega) (b2.2.1 (by omega)) (by omega) rfl z_inv_0 hT2 ⟨rfl, rfl, fun _ => ⟨⟨?_, ?_, ?_, ?_, fun k hk => absurd hk (Nat.not_lt_zero _)⟩, rfl, rfl⟩, 0, ?_, by omega⟩ (fun z => absurd rfl z) rfl⟩
      · rw [show ((2 : Int32)).toNatClampNeg = 2 from rfl, show ((1 : Int32)).toNatClampNeg = 1 from rfl, pk_un (by omega), pk_un (by omega)]
        exact h 0 (by omega)
      · rw [show ((2 : Int32)).toNatClampNeg = 2 from rfl, show ((1 : Int32)).toNatClampNeg = 1 from rfl, pk_un (by omega), pk_us]
        rfl
      · rw [show ((2 : Int32)).toNatClampNeg = 2 from rfl, pk_us]
        rfl
      · rw [show ((2 : Int32)).toNatClampNeg = 2 from rfl, show ((1 : Int32)).toNatClampNeg = 1 from rfl, pk_un (by omega), pk_un (by omega)]
        exact h 3 (by omega)
      · rw [show ((2 : Int32)).toNatClampNeg = 2 from rfl, show ((1 : Int32)).toNatClampNeg = 1 from rfl, pk_un (by omega), pk_un (by omega)]
        exact h 0 (by omega)
    | succ r ih =>
      intro k told hk h
      refine ⟨fun z => ?_, fun _ => ?_⟩
      · rw [show (124 : Int32) = nI 124 from rfl, nI_leI (by omega) (by omega)] at z
        omega
      · rw [nI_clamp (by omega), show (1 : Int32) = nI 1 from rfl, nI_add]
        refine ⟨vp_in_nI (by omega) (by omega), ih (k + 1) _ (by omega) (fun j hj => ?_)⟩
        by_cases e : j = k
        · rw [e, pk_us]
        · rw [pk_un e]
          exact h j (by omega)
  unfold wX7_read
  rw [e124, h124]
  exact ⟨_, clear 124 0 t_told (by omega) (fun j hj => absurd hj (Nat.not_lt_zero _))⟩
