/-! read, by the class -/
theorem l_at00 {L : ZL} (h : L.2.2.2.2.2 = 0) : l_at L (c_beg L) := by
  show z_at 60 L.1 L.2.1 L.2.2.1 L.2.2.2.1 L.2.2.2.2.1 L.2.2.2.2.2 (c_beg L)
  rw [h]
  rfl
theorem l_wcr0 {L : ZL} {q : Nat × Nat} (h : L.2.2.2.2.2 = 0) : l_wcr L q = q := by
  show z_wcr _ _ _ _ _ L.2.2.2.2.2 _ _ = q
  rw [h]
  rfl
theorem s6_read {u : Nat → Nat} {n : Nat} {q : Nat × Nat} {mb : Nat} {t_now_text : Nat → Int32} {post : Int32 → Int32 → Int32 → Int32 → Int32 → Int32 → Int32 → Int32 → Int32 → Int32 → Int32 → Int32 → Int32 → Int32 → Int32 → Int32 → Int32 → Int32 → Int32 → Int32 → Int32 → Int32 → Int32 → Int32 → Int64 → Int32 → Int32 → Int32 → Int32 → Int32 → Int32 → Int32 → (Nat → Int32) → (Nat → Int32) → (Nat → Int32) → (Nat → Int32) → (Nat → Int32) → (Nat → Int32) → (Nat → Int32) → (Nat → Int32) → (Nat → Int32) → Nat → (Nat → Int32) → Nat → (Nat → Int64) → Nat → (Nat → Int32) → Nat → (Nat → Int32) → Nat → (Nat → Int64) → Nat → Prop} {t_acts t_frontState t_now_fault t_now_faultPlace t_reader_fault t_reader_faultPlace t_reader_due t_reader_weight t_reader_told_items t_reader_told_room t_reader_told_most t_reader_told_steps t_now_load_items t_now_load_room t_now_load_most t_now_load_steps t_core_most t_core_from t_core_to t_core_steps t_core_bestWeight t_core_bestProfit : Int32} {t_core_bestBits : Int64} {t_core_ranked_items t_core_ranked_room t_core_ranked_breakPlace t_core_ranked_breakWeight t_core_ranked_breakProfit t_core_sets_size t_core_spare_size : Int32} {t_reader_told_profits t_reader_told_weights t_now_load_weights t_now_load_profits t_core_ranked_itemAt t_core_ranked_placeOf t_core_ranked_weights t_core_ranked_profits t_core_sets_weights t_core_sets_profits : Nat → Int32} {t_core_sets_bits : Nat → Int64} {t_core_spare_profits t_core_spare_weights : Nat → Int32} {t_core_spare_bits : Nat → Int64} (ht : z_tx u n t_now_text) (hq1 : z_pw q.1) (hq2 : z_pw q.2)
    (h1 : (z_read u n).1 = 0 → l_lim (z_read u n).2.2 → (z_read u n).2.2.2.2.2.2.2 = 0 → ∀ (r t_acts' t_frontState' t_now_length' t_now_fault' t_now_faultPlace' t_reader_fault' t_reader_faultPlace' t_reader_due' t_reader_weight' t_reader_told_items' t_reader_told_room' t_reader_told_most' t_reader_told_steps' t_now_load_items' t_now_load_room' t_now_load_most' t_now_load_steps' t_core_most' t_core_from' t_core_to' t_core_steps' t_core_bestWeight' t_core_bestProfit' : Int32) (t_core_bestBits' : Int64) (t_core_ranked_items' t_core_ranked_room' t_core_ranked_breakPlace' t_core_ranked_breakWeight' t_core_ranked_breakProfit' t_core_sets_size' t_core_spare_size' : Int32) (t_reader_told_profits' t_reader_told_weights' t_now_load_weights' t_now_load_profits' t_core_ranked_itemAt' t_core_ranked_placeOf' t_core_ranked_weights' t_core_ranked_profits' t_core_sets_weights' : Nat → Int32) (n_t_core_sets_weights' : Nat) (t_core_sets_profits' : Nat → Int32) (n_t_core_sets_profits' : Nat) (t_core_sets_bits' : Nat → Int64) (n_t_core_sets_bits' : Nat) (t_core_spare_profits' : Nat → Int32) (n_t_core_spare_profits' : Nat) (t_core_spare_weights' : Nat → Int32) (n_t_core_spare_weights' : Nat) (t_core_spare_bits' : Nat → Int64) (n_t_core_spare_bits' : Nat), r = nI (z_read u n).2.2.1 → x_L (z_read u n).2.2 t_now_load_items' t_now_load_room' t_now_load_most' t_now_load_steps' t_now_load_weights' t_now_load_profits' → t_acts' = 0 → t_frontState' = 0 → l_core (z_read u n).2.2 (c_beg (z_read u n).2.2) t_core_most' t_core_from' t_core_to' t_core_steps' t_core_bestWeight' t_core_bestProfit' t_core_bestBits' t_core_ranked_items' t_core_ranked_room' t_core_ranked_breakPlace' t_core_ranked_breakWeight' t_core_ranked_breakProfit' t_core_sets_size' t_core_ranked_itemAt' t_core_ranked_placeOf' t_core_ranked_weights' t_core_ranked_profits' t_core_sets_weights' t_core_sets_profits' t_core_sets_bits' → t_now_length' = 0 → t_now_fault' = 0 → t_now_faultPlace' = -1 → n_t_core_sets_weights' = q.1 → n_t_core_sets_profits' = q.1 → n_t_core_sets_bits' = q.1 → n_t_core_spare_profits' = q.2 → n_t_core_spare_weights' = q.2 → n_t_core_spare_bits' = q.2 → post r t_acts' t_frontState' t_now_length' t_now_fault' t_now_faultPlace' t_reader_fault' t_reader_faultPlace' t_reader_due' t_reader_weight' t_reader_told_items' t_reader_told_room' t_reader_told_most' t_reader_told_steps' t_now_load_items' t_now_load_room' t_now_load_most' t_now_load_steps' t_core_most' t_core_from' t_core_to' t_core_steps' t_core_bestWeight' t_core_bestProfit' t_core_bestBits' t_core_ranked_items' t_core_ranked_room' t_core_ranked_breakPlace' t_core_ranked_breakWeight' t_core_ranked_breakProfit' t_core_sets_size' t_core_spare_size' t_reader_told_profits' t_reader_told_weights' t_now_load_weights' t_now_load_profits' t_core_ranked_itemAt' t_core_ranked_placeOf' t_core_ranked_weights' t_core_ranked_profits' t_core_sets_weights' n_t_core_sets_weights' t_core_sets_profits' n_t_core_sets_profits' t_core_sets_bits' n_t_core_sets_bits' t_core_spare_profits' n_t_core_spare_profits' t_core_spare_weights' n_t_core_spare_weights' t_core_spare_bits' n_t_core_spare_bits')
    (h0 : ¬ (z_read u n).1 = 0 → ∀ (t_reader_fault' t_reader_faultPlace' t_reader_due' t_reader_weight' t_reader_told_items' t_reader_told_room' t_reader_told_most' t_reader_told_steps' : Int32) (t_reader_told_profits' t_reader_told_weights' : Nat → Int32), post (-1) t_acts t_frontState 0 (nI (z_read u n).1) (nI (z_read u n).2.1) t_reader_fault' t_reader_faultPlace' t_reader_due' t_reader_weight' t_reader_told_items' t_reader_told_room' t_reader_told_most' t_reader_told_steps' t_now_load_items t_now_load_room t_now_load_most t_now_load_steps t_core_most t_core_from t_core_to t_core_steps t_core_bestWeight t_core_bestProfit t_core_bestBits t_core_ranked_items t_core_ranked_room t_core_ranked_breakPlace t_core_ranked_breakWeight t_core_ranked_breakProfit t_core_sets_size t_core_spare_size t_reader_told_profits' t_reader_told_weights' t_now_load_weights t_now_load_profits t_core_ranked_itemAt t_core_ranked_placeOf t_core_ranked_weights t_core_ranked_profits t_core_sets_weights q.1 t_core_sets_profits q.1 t_core_sets_bits q.1 t_core_spare_profits q.2 t_core_spare_weights q.2 t_core_spare_bits q.2) :
    wX6_read mb t_now_text post t_acts t_frontState (nI n) t_now_fault t_now_faultPlace t_reader_fault t_reader_faultPlace t_reader_due t_reader_weight t_reader_told_items t_reader_told_room t_reader_told_most t_reader_told_steps t_now_load_items t_now_load_room t_now_load_most t_now_load_steps t_core_most t_core_from t_core_to t_core_steps t_core_bestWeight t_core_bestProfit t_core_bestBits t_core_ranked_items t_core_ranked_room t_core_ranked_breakPlace t_core_ranked_breakWeight t_core_ranked_breakProfit t_core_sets_size t_core_spare_size t_reader_told_profits t_reader_told_weights t_now_load_weights t_now_load_profits t_core_ranked_itemAt t_core_ranked_placeOf t_core_ranked_weights t_core_ranked_profits t_core_sets_weights q.1 t_core_sets_profits q.1 t_core_sets_bits q.1 t_core_spare_profits q.2 t_core_spare_weights q.2 t_core_spare_bits q.2 := by
  unfold wX6_read
  refine s3_readAll ht ?_
  intro rf rfp rd rw' ri rr rm rs rp rwt e1 e2 e3 e4
  unfold wX6_read_21
  by_cases f : (z_read u n).1 = 0
  · obtain ⟨efp, hl, hst, hxt⟩ := e3 f
    have ef : rf = 0 := by rw [e1, f]; rfl
    refine ⟨fun _ => ?_, fun z => absurd ef z⟩
    refine s1_copyFrom hl.1 hxt (fun i r m s ws ps hxx => ?_)
    unfold wX6_read_86
    have hat := l_at00 hst
    have hw := l_wcr0 (q := q) hst
    refine ⟨0, Nat.zero_le _, ?_⟩
    refine s6_makeCoreAnew hl hat hxx hq1 hq2 (by rw [hw]; omega) ?_
    rw [hw]
    intro fs' a1 a2 a3 a4 a5 a6 a7 a8 a9 a10 a11 a12 a13 a14 a15 a16 a17 a18 a19 b1 a20 b2 a21 b3 a22 b4 a23 b5 a24 b6 eff hcore n1 n2 n3 n4 n5 n6
    unfold wX6_read_95
    refine h1 f hl hst _ _ _ _ _ _ _ _ _ _ _ _ _ _ _ _ _ _ _ _ _ _ _ _ _ _ _ _ _ _ _ _ _ _ _ _ _ _ _ _ _ _ _ _ _ _ _ _ _ _ _ _ ?_ hxx rfl eff hcore rfl ef efp n1 n2 n3 n4 n5 n6
    exact hxx.1
  · refine ⟨fun z => ?_, fun _ => ?_⟩
    · rw [e1, show (0 : Int32) = nI 0 from rfl, nI_eq (by omega) (by omega)] at z
      exact absurd z f
    · rw [e2 f, e1]
      exact h0 f _ _ _ _ _ _ _ _ _ _
/-! image and again -/
theorem fits_b8 {c : Nat} (h : c < 256) : fits .byte (.int (z_b8 c)) = true := by
  have e := b8_of c
  rw [Nat.mod_eq_of_lt h] at e
  rw [← e]
  exact fits_narrow_byte (nI c)
/-- all that an image keeps: the load, the text, the fault, the shelves -/
abbrev ZI : Type := ZL × (Nat × (Nat → Nat)) × (Int32 × Int32) × ZH
def x_I (I : ZI) (len fault place items room most steps : Int32) (ws ps text sw sp : Nat → Int32) : Prop := x_L I.1 items room most steps ws ps ∧ x_tx I.2.1.2 I.2.1.1 len text ∧ fault = I.2.2.1.1 ∧ place = I.2.2.1.2 ∧ x_sh I.2.2.2 sw sp
def y_I (I : ZI) (a t : Nat → Int32) : Prop := y_L I.1 a ∧ x_tx I.2.1.2 I.2.1.1 (a 124) t ∧ a 125 = I.2.2.1.1 ∧ a 126 = I.2.2.1.2 ∧ y_sh I.2.2.2 a
theorem s5_copyFrom {I : ZI} {p1_length p1_fault p1_faultPlace p1_load_items p1_load_room p1_load_most p1_load_steps : Int32} {p1_load_weights p1_load_profits p1_text p1_shelfWeights p1_shelfProfits : Nat → Int32} {post : Int32 → Int32 → Int32 → Int32 → Int32 → Int32 → Int32 → (Nat → Int32) → (Nat → Int32) → (Nat → Int32) → (Nat → Int32) → (Nat → Int32) → Prop} {t_length t_fault t_faultPlace t_load_items t_load_room t_load_most t_load_steps : Int32} {t_load_weights t_load_profits t_text t_shelfWeights t_shelfProfits : Nat → Int32} (hn : I.1.1 ≤ 60) (hI : x_I I p1_length p1_fault p1_faultPlace p1_load_items p1_load_room p1_load_most p1_load_steps p1_load_weights p1_load_profits p1_text p1_shelfWeights p1_shelfProfits)
    (hk : ∀ (t_length' t_fault' t_faultPlace' t_load_items' t_load_room' t_load_most' t_load_steps' : Int32) (t_load_weights' t_load_profits' t_text' t_shelfWeights' t_shelfProfits' : Nat → Int32), x_I I t_length' t_fault' t_faultPlace' t_load_items' t_load_room' t_load_most' t_load_steps' t_load_weights' t_load_profits' t_text' t_shelfWeights' t_shelfProfits' → post t_length' t_fault' t_faultPlace' t_load_items' t_load_room' t_load_most' t_load_steps' t_load_weights' t_load_profits' t_text' t_shelfWeights' t_shelfProfits') : wX5_copyFrom p1_length p1_fault p1_faultPlace p1_load_items p1_load_room p1_load_most p1_load_steps p1_load_weights p1_load_profits p1_text p1_shelfWeights p1_shelfProfits post t_length t_fault t_faultPlace t_load_items t_load_room t_load_most t_load_steps t_load_weights t_load_profits t_text t_shelfWeights t_shelfProfits := by
  obtain ⟨hL, ⟨hlen, h600, htx⟩, hf, hp, hS⟩ := hI
  subst hlen
  unfold wX5_copyFrom
  refine s1_copyFrom hn hL (fun i r m s ws ps hxx => ?_)
  unfold wX5_copyFrom_11
  have e0 : ((0 : Int32)).toNatClampNeg = 0 := rfl
  have nn : ∀ k : Nat, k < 2 ^ 31 → ¬ nI k < 0 := fun k hk => nI_nlt (b := 0) (Nat.zero_le _) hk
  rw [e0, nI_clamp (by omega), nI_clamp (show 8 < 2 ^ 31 by omega)]
  refine ⟨nn _ (by omega), by omega, by omega, fun i hi => ?_, nn 8 (by omega), by omega, by omega, nn 8 (by omega), by omega, by omega, ?_⟩
  · rw [Nat.zero_add, (htx i hi).2]
    exact fits_b8 (htx i hi).1
  · refine hk _ _ _ _ _ _ _ _ _ _ _ _ ⟨hxx, ⟨rfl, h600, fun k hk => ⟨(htx k hk).1, ?_⟩⟩, hf, hp, fun k hk => ?_⟩
    · rw [z_cpy0 hk]
      exact (htx k hk).2
    · rw [z_cpy0 hk, z_cpy0 hk]
      exact hS k hk
/-- a block is copied -/
theorem s7_copiesText {c d : Nat} {post : (Nat → Int32) → (Nat → Int32) → Prop} {t_all t_text : Nat → Int32} {v1 v2 : Int32} (hc : c < 4) (hd : d < 4) (hcd : c ≠ d) (e1 : v1 = nI c) (e2 : v2 = nI d) (hb : ∀ k, k < 600 → vp_nar .byte (t_text (600 * c + k)) = t_text (600 * c + k))
    (hk : ∀ (t_all' t_text' : Nat → Int32), (∀ k, k < 151 → t_all' (151 * d + k) = t_all (151 * c + k)) → (∀ j, (j < 151 * d ∨ 151 * d + 151 ≤ j) → t_all' j = t_all j) → (∀ k, k < 600 → t_text' (600 * d + k) = t_text (600 * c + k)) → (∀ j, (j < 600 * d ∨ 600 * d + 600 ≤ j) → t_text' j = t_text j) → post t_all' t_text') : wX7_copiesText post t_all t_text v1 v2 := by
  subst e1 e2
  have key2 : ∀ (a : Nat → Int32), (∀ k, k < 151 → a (151 * d + k) = t_all (151 * c + k)) → (∀ j, (j < 151 * d ∨ 151 * d + 151 ≤ j) → a j = t_all j) → ∀ (r k : Nat) (t : Nat → Int32), k + r = 600 → (∀ j, j < k → t (600 * d + j) = t_text (600 * c + j)) → (∀ j, (j < 600 * d ∨ 600 * d + k ≤ j) → t j = t_text j) → wX7_copiesText_41 post (r + 1) a t (nI c) (nI d) (nI k) := by
    intro a ha1 ha2 r
    induction r with
    | zero =>
      intro k t hk1 ht1 ht2
      have ek : k = 600 := by omega
      subst ek
      exact ⟨fun _ => hk _ _ ha1 ha2 ht1 ht2, fun z => absurd (by decide) z⟩
    | succ r ih =>
      intro k t hk1 ht1 ht2
      refine ⟨fun z => ?_, fun _ => ?_⟩
      · rw [show (600 : Int32) = nI 600 from rfl, nI_leI (by omega) (by omega)] at z
        omega
      · rw [show (600 : Int32) = nI 600 from rfl, nI_mul, nI_mul, nI_add, nI_add, nI_clamp (by omega), nI_clamp (by omega), show (1 : Int32) = nI 1 from rfl, nI_add]
        have hsrc : t (600 * c + k) = t_text (600 * c + k) := ht2 _ (by omega)
        rw [hsrc, hb k (by omega)]
        refine ⟨vp_in_nI (by omega) (by omega), vp_in_nI (by omega) (by omega), ih (k + 1) _ (by omega) (fun j hj => ?_) (fun j hj => ?_)⟩
        · by_cases e : j = k
          · rw [e, pk_us]
          · rw [pk_un (by omega)]
            exact ht1 j (by omega)
        · rw [pk_un (by omega)]
          exact ht2 j (by omega)
  have key1 : ∀ (r k : Nat) (a : Nat → Int32), k + r = 151 → (∀ j, j < k → a (151 * d + j) = t_all (151 * c + j)) → (∀ j, (j < 151 * d ∨ 151 * d + k ≤ j) → a j = t_all j) → wX7_copiesText_2 post (r + 1) a t_text (nI c) (nI d) (nI k) := by
    intro r
    induction r with
    | zero =>
      intro k a hk1 ha1 ha2
      have ek : k = 151 := by omega
      subst ek
      exact ⟨fun _ => ⟨_, key2 a ha1 ha2 600 0 t_text (by omega) (fun j hj => absurd hj (Nat.not_lt_zero _)) (fun j _ => rfl)⟩, fun z => absurd (by decide) z⟩
    | succ r ih =>
      intro k a hk1 ha1 ha2
      refine ⟨fun z => ?_, fun _ => ?_⟩
      · rw [show (151 : Int32) = nI 151 from rfl, nI_leI (by omega) (by omega)] at z
        omega
      · rw [show (151 : Int32) = nI 151 from rfl, nI_mul, nI_mul, nI_add, nI_add, nI_clamp (by omega), nI_clamp (by omega), show (1 : Int32) = nI 1 from rfl, nI_add]
        have hsrc : a (151 * c + k) = t_all (151 * c + k) := ha2 _ (by omega)
        rw [hsrc]
        refine ⟨vp_in_nI (by omega) (by omega), vp_in_nI (by omega) (by omega), ih (k + 1) _ (by omega) (fun j hj => ?_) (fun j hj => ?_)⟩
        · by_cases e : j = k
          · rw [e, pk_us]
          · rw [pk_un (by omega)]
            exact ha1 j (by omega)
        · rw [pk_un (by omega)]
          exact ha2 j (by omega)
  exact ⟨_, key1 151 0 t_all (by omega) (fun j hj => absurd hj (Nat.not_lt_zero _)) (fun j _ => rfl)⟩
theorem y_I.congr {I : ZI} {a t a' t' : Nat → Int32} (hn : I.1.1 ≤ 60) (h : y_I I a t) (ha : ∀ j, j < 151 → a' j = a j) (ht : ∀ j, j < 600 → t' j = t j) : y_I I a' t' := by
  obtain ⟨h1, ⟨h2, h3, h4⟩, h5, h6, h7⟩ := h
  refine ⟨h1.congr hn (fun j hj => ha j (by omega)), ⟨by rw [ha 124 (by omega)]; exact h2, h3, fun k hk => by rw [ht k (by omega)]; exact h4 k hk⟩, by rw [ha 125 (by omega)]; exact h5, by rw [ha 126 (by omega)]; exact h6, fun k hk => ?_⟩
  rw [ha (127 + 3 * k) (by omega), ha (128 + 3 * k) (by omega), ha (129 + 3 * k) (by omega)]
  exact h7 k hk
/-- what is kept -/
def y_img (J : Nat → Option ZI) (saved a t : Nat → Int32) : Prop := ∀ k, k < 3 → (J k = none → saved k = 0) ∧ (∀ I, J k = some I → saved k = 1 ∧ I.1.1 ≤ 60 ∧ y_I I (fun j => a (151 * (k + 1) + j)) (fun j => t (600 * (k + 1) + j)))
/-- all bytes of the text are bytes -/
def y_by (t : Nat → Int32) : Prop := ∀ k, k < 2400 → vp_nar .byte (t k) = t k
theorem s7_image {I : ZI} {J : Nat → Option ZI} {post : Int32 → Int32 → (Nat → Int32) → (Nat → Int32) → (Nat → Int32) → Prop} {t_raised : Int32} {t_all t_text t_saved : Nat → Int32} {v1 : Int32} (hn : I.1.1 ≤ 60) (hI : y_I I t_all t_text) (hJ : y_img J t_saved t_all t_text) (hb : y_by t_text)
    (h1 : ∀ k, v1 = nI k → k < 3 → ∀ (r t_raised' : Int32) (t_all' t_text' t_saved' : Nat → Int32), r = 1 → t_raised' = 0 → y_I I t_all' t_text' → y_img (fun j => if j = k then some I else J j) t_saved' t_all' t_text' → y_by t_text' → post r t_raised' t_all' t_text' t_saved') (h0 : (¬ ∃ k, v1 = nI k ∧ k < 3) → post 0 0 t_all t_text t_saved) : wX7_image post t_raised t_all t_text t_saved v1 := by
  unfold wX7_image
  refine s7_inI (a := 0) (b := 2) (by omega) (by omega) (fun k e _ hk => ?_) (fun h => ?_)
  · unfold wX7_image_14
    refine ⟨fun z => absurd z (by decide), fun _ => ?_⟩
    refine s7_copiesText (c := 0) (d := k + 1) (by omega) (by omega) (by omega) rfl (by rw [e, show (1 : Int32) = nI 1 from rfl, nI_add]) (fun j hj => hb _ (by omega)) (fun a' t' q1 q2 q3 q4 => ?_)
    unfold wX7_image_27
    rw [e, nI_clamp (by omega)]
    refine ⟨vp_in_nI (by omega) (by omega), h1 k e (by omega) _ _ _ _ _ rfl rfl ?_ ?_ ?_⟩
    · exact hI.congr hn (fun j hj => q2 j (by omega)) (fun j hj => q4 j (by omega))
    · intro m hm
      by_cases em : m = k
      · subst em
        rw [pk_us]
        refine ⟨fun z => ?_, fun I' z => ?_⟩
        · dsimp only at z
          rw [if_pos rfl] at z
          cases z
        · dsimp only at z
          rw [if_pos rfl] at z
          cases z
          refine ⟨rfl, hn, hI.congr hn (fun j hj => ?_) (fun j hj => ?_)⟩
          · have := q1 j hj
            rw [show 151 * 0 + j = j by omega] at this
            exact this
          · have := q3 j hj
            rw [show 600 * 0 + j = j by omega] at this
            exact this
      · rw [pk_un em]
        obtain ⟨z1, z2⟩ := hJ m hm
        refine ⟨fun z => ?_, fun I' z => ?_⟩
        · dsimp only at z
          rw [if_neg em] at z
          exact z1 z
        · dsimp only at z
          rw [if_neg em] at z
          obtain ⟨y1, y2, y3⟩ := z2 I' z
          refine ⟨y1, y2, y3.congr y2 (fun j hj => ?_) (fun j hj => ?_)⟩
          · exact q2 _ (by omega)
          · exact q4 _ (by omega)
    · intro j hj
      by_cases g : j < 600 * (k + 1) ∨ 600 * (k + 1) + 600 ≤ j
      · rw [q4 j g]
        exact hb j hj
      · have := q3 (j - 600 * (k + 1)) (by omega)
        rw [show 600 * (k + 1) + (j - 600 * (k + 1)) = j by omega] at this
        rw [this]
        exact hb _ (by omega)
  · unfold wX7_image_14
    exact ⟨fun _ => h0 (fun ⟨k, e, hk⟩ => h ⟨k, e, by omega, by omega⟩), fun z => absurd rfl z⟩
theorem s7_again {J : Nat → Option ZI} {t_saved : Nat → Int32} {post : Int32 → Int32 → Int32 → (Nat → Int32) → (Nat → Int32) → Prop} {t_raised t_undos : Int32} {t_all t_text : Nat → Int32} {v1 : Int32} (hJ : y_img J t_saved t_all t_text) (hb : y_by t_text)
    (h1 : ∀ k I, v1 = nI k → k < 3 → J k = some I → ∀ (r t_raised' t_undos' : Int32) (t_all' t_text' : Nat → Int32), r = 1 → t_raised' = 0 → t_undos' = 0 → y_I I t_all' t_text' → y_img J t_saved t_all' t_text' → y_by t_text' → post r t_raised' t_undos' t_all' t_text') (h0 : (¬ ∃ k I, v1 = nI k ∧ k < 3 ∧ J k = some I) → post 0 0 t_undos t_all t_text) : wX7_again t_saved post t_raised t_undos t_all t_text v1 := by
  unfold wX7_again
  refine s7_inI (a := 0) (b := 2) (by omega) (by omega) (fun k e _ hk => ?_) (fun h => ?_)
  · unfold wX7_again_14
    refine ⟨fun z => absurd z (by decide), fun _ => ?_⟩
    obtain ⟨z1, z2⟩ := hJ k (by omega)
    rw [e, nI_clamp (by omega)]
    refine ⟨vp_in_nI (by omega) (by omega), fun g => ?_, fun g => ?_⟩
    · refine h0 (fun ⟨k', I, e', hk', hI⟩ => ?_)
      have ek : k = k' := (nI_eq (by omega) (by omega)).mp (e.symm.trans e')
      subst ek
      rw [(z2 I hI).1] at g
      exact absurd g (by decide)
    · cases hI : J k with
      | none => exact absurd (z1 hI) g
      | some I =>
        obtain ⟨y1, y2, y3⟩ := z2 I hI
        refine s7_copiesText (c := k + 1) (d := 0) (by omega) (by omega) (by omega) (by rw [show (1 : Int32) = nI 1 from rfl, nI_add]) rfl (fun j hj => hb _ (by omega)) (fun a' t' q1 q2 q3 q4 => ?_)
        unfold wX7_again_36
        refine h1 k I e (by omega) hI _ _ _ _ _ rfl rfl rfl ?_ ?_ ?_
        · refine y3.congr y2 (fun j hj => ?_) (fun j hj => ?_)
          · have := q1 j hj
            rw [show 151 * 0 + j = j by omega] at this
            exact this
          · have := q3 j hj
            rw [show 600 * 0 + j = j by omega] at this
            exact this
        · intro m hm
          obtain ⟨w1, w2⟩ := hJ m hm
          refine ⟨w1, fun I' z => ?_⟩
          obtain ⟨x1, x2, x3⟩ := w2 I' z
          exact ⟨x1, x2, x3.congr x2 (fun j hj => q2 _ (by omega)) (fun j hj => q4 _ (by omega))⟩
        · intro j hj
          by_cases g2 : 600 ≤ j
          · rw [q4 j (by omega)]
            exact hb j hj
          · have := q3 j (by omega)
            rw [show 600 * 0 + j = j by omega] at this
            rw [this]
            exact hb _ (by omega)
  · unfold wX7_again_14
    refine ⟨fun _ => h0 (fun ⟨k, I, e, hk, _⟩ => h ⟨k, e, by omega, by omega⟩), fun z => absurd rfl z⟩
