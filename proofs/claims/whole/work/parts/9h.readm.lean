/-! the text read, by the reference -/
theorem lN_eq64 {a b : Nat} (ha : a < 2 ^ 64) (hb : b < 2 ^ 64) : lN a = lN b ↔ a = b := by
  refine ⟨fun h => ?_, fun h => by rw [h]⟩
  have e := congrArg (fun x : Int64 => x.toBitVec.toNat) h
  have e' : (lN a).toBitVec.toNat = (lN b).toBitVec.toNat := e
  rw [wb_tn ha, wb_tn hb] at e'
  exact e'
/-- letters as a number -/
def z_wv (u : Nat → Nat) (p : Nat) : Nat → Nat
  | 0 => 0
  | k + 1 => z_wv u p k * 256 + u (p + k)
theorem z_wv_lt {u : Nat → Nat} {p : Nat} : ∀ {k : Nat}, (∀ i, i < k → u (p + i) < 256) → z_wv u p k < 256 ^ k
  | 0, _ => by show (0 : Nat) < 1; omega
  | k + 1, h => by
    have a := z_wv_lt (u := u) (p := p) (k := k) (fun i hi => h i (by omega))
    have b := h k (by omega)
    show z_wv u p k * 256 + u (p + k) < 256 ^ (k + 1)
    rw [Nat.pow_succ]
    omega
theorem z_wv_ge {u : Nat → Nat} {p : Nat} : ∀ {k : Nat}, (∀ i, i < k + 1 → 1 ≤ u (p + i)) → 256 ^ k ≤ z_wv u p (k + 1)
  | 0, h => by
    have := h 0 (by omega)
    show 1 ≤ 0 * 256 + u (p + 0)
    omega
  | k + 1, h => by
    have a := z_wv_ge (u := u) (p := p) (k := k) (fun i hi => h i (by omega))
    show 256 ^ (k + 1) ≤ z_wv u p (k + 1) * 256 + u (p + (k + 1))
    rw [Nat.pow_succ]
    omega
/-- the word that the reference keeps says which it is -/
def y_W (v : Nat) (word : Int64) : Prop := (word = 1769235821 ↔ v = 3) ∧ (word = 1919905645 ↔ v = 1) ∧ (word = 1836020596 ↔ v = 2)
theorem z_is_iff {u : Nat → Nat} {p e a b c d : Nat} : z_is u p e a b c d = true ↔ (e = p + 4 ∧ u p = a ∧ u (p + 1) = b ∧ u (p + 2) = c ∧ u (p + 3) = d) := decide_eq_true_iff
theorem z_wd_v {u : Nat → Nat} {p e : Nat} : (z_wd u p e = 3 ↔ z_is u p e 105 116 101 109 = true) ∧ (z_wd u p e = 1 ↔ z_is u p e 114 111 111 109 = true) ∧ (z_wd u p e = 2 ↔ z_is u p e 109 111 115 116 = true) := by
  unfold z_wd
  by_cases h1 : z_is u p e 114 111 111 109 = true
  · rw [if_pos h1]
    have k := z_is_iff.mp h1
    refine ⟨⟨fun h => by omega, fun h => ?_⟩, ⟨fun _ => h1, fun _ => rfl⟩, ⟨fun h => by omega, fun h => ?_⟩⟩
    · have k2 := z_is_iff.mp h
      omega
    · have k2 := z_is_iff.mp h
      omega
  · rw [if_neg h1]
    by_cases h2 : z_is u p e 109 111 115 116 = true
    · rw [if_pos h2]
      have k := z_is_iff.mp h2
      refine ⟨⟨fun h => by omega, fun h => ?_⟩, ⟨fun h => by omega, fun h => absurd h h1⟩, ⟨fun _ => h2, fun _ => rfl⟩⟩
      have k2 := z_is_iff.mp h
      omega
    · rw [if_neg h2]
      by_cases h3 : z_is u p e 105 116 101 109 = true
      · rw [if_pos h3]
        exact ⟨⟨fun _ => h3, fun _ => rfl⟩, ⟨fun h => by omega, fun h => absurd h h1⟩, ⟨fun h => by omega, fun h => absurd h h2⟩⟩
      · rw [if_neg h3]
        exact ⟨⟨fun h => by omega, fun h => absurd h h3⟩, ⟨fun h => by omega, fun h => absurd h h1⟩, ⟨fun h => by omega, fun h => absurd h h2⟩⟩
theorem n_dg {x y p q : Nat} (hp : p < 256) (hq : q < 256) (h : x * 256 + p = y * 256 + q) : x = y ∧ p = q := by omega
theorem z_wv_is {u : Nat → Nat} {p k a b c d : Nat} (hk : k ≤ 8) (h1 : ∀ i, i < k → 1 ≤ u (p + i)) (h2 : ∀ i, i < k → u (p + i) < 256) (ha : 1 ≤ a ∧ a < 256) (hb : b < 256) (hc : c < 256) (hd : d < 256) : z_wv u p k = ((a * 256 + b) * 256 + c) * 256 + d ↔ z_is u p (p + k) a b c d = true := by
  rw [z_is_iff]
  have hlt := z_wv_lt (u := u) (p := p) (k := k) h2
  rcases (show k ≤ 3 ∨ k = 4 ∨ 5 ≤ k by omega) with hk3 | hk4 | hk5
  · have : 256 ^ k ≤ 256 ^ 3 := Nat.pow_le_pow_right (by omega) hk3
    have e : 256 ^ 3 = 16777216 := rfl
    constructor
    · intro h; omega
    · intro h; omega
  · subst hk4
    have w : z_wv u p 4 = (((0 * 256 + u (p + 0)) * 256 + u (p + 1)) * 256 + u (p + 2)) * 256 + u (p + 3) := rfl
    have g0 := h2 0 (by omega)
    have g1 := h2 1 (by omega)
    have g2 := h2 2 (by omega)
    have g3 := h2 3 (by omega)
    rw [w]
    constructor
    · intro h
      obtain ⟨h4, d3⟩ := n_dg g3 hd h
      obtain ⟨h5, d2⟩ := n_dg g2 hc h4
      obtain ⟨h6, d1⟩ := n_dg g1 hb h5
      refine ⟨rfl, ?_, d1, d2, d3⟩
      rw [Nat.zero_mul, Nat.zero_add, Nat.add_zero] at h6
      exact h6
    · rintro ⟨-, rfl, rfl, rfl, rfl⟩
      rw [Nat.zero_mul, Nat.zero_add, Nat.add_zero]
  · have : 256 ^ 4 ≤ 256 ^ (k - 1) := Nat.pow_le_pow_right (by omega) (by omega)
    have e : 256 ^ 4 = 4294967296 := rfl
    have g := z_wv_ge (u := u) (p := p) (k := k - 1) (fun i hi => h1 i (by omega))
    rw [show k - 1 + 1 = k by omega] at g
    constructor
    · intro h; omega
    · intro h; omega
theorem y_W_of {u : Nat → Nat} {p k : Nat} {w : Int64} (hl : ∀ i, i < k → z_lt (u (p + i)) = true) (h8 : k ≤ 8 → w = lN (z_wv u p k)) (h9 : ¬ k ≤ 8 → w = 0) : y_W (z_wd u p (p + k)) w := by
  have l1 : ∀ i, i < k → 97 ≤ u (p + i) ∧ u (p + i) ≤ 122 := fun i hi => decide_eq_true_iff.mp (hl i hi)
  obtain ⟨v3, v1, v2⟩ := z_wd_v (u := u) (p := p) (e := p + k)
  unfold y_W
  rw [v3, v1, v2]
  by_cases hk : k ≤ 8
  · rw [h8 hk]
    have hlt := z_wv_lt (u := u) (p := p) (k := k) (fun i hi => by have := l1 i hi; omega)
    have h64 : 256 ^ k ≤ 256 ^ 8 := Nat.pow_le_pow_right (by omega) hk
    have e64 : 256 ^ 8 = 2 ^ 64 := rfl
    have q : ∀ a b c d : Nat, (1 ≤ a ∧ a < 256) → b < 256 → c < 256 → d < 256 → (lN (z_wv u p k) = lN (((a * 256 + b) * 256 + c) * 256 + d) ↔ z_is u p (p + k) a b c d = true) := fun a b c d ha hb hc hd => by
      rw [lN_eq64 (by omega) (by omega)]
      exact z_wv_is hk (fun i hi => by have := l1 i hi; omega) (fun i hi => by have := l1 i hi; omega) ha hb hc hd
    exact ⟨q 105 116 101 109 (by omega) (by omega) (by omega) (by omega), q 114 111 111 109 (by omega) (by omega) (by omega) (by omega), q 109 111 115 116 (by omega) (by omega) (by omega) (by omega)⟩
  · rw [h9 hk]
    have n : ∀ a b c d : Nat, ¬ z_is u p (p + k) a b c d = true := fun a b c d h => by
      have := z_is_iff.mp h
      omega
    exact ⟨⟨fun h => absurd h (by decide), fun h => absurd h (n _ _ _ _)⟩, ⟨fun h => absurd h (by decide), fun h => absurd h (n _ _ _ _)⟩, ⟨fun h => absurd h (by decide), fun h => absurd h (n _ _ _ _)⟩⟩
theorem s7_see {u : Nat → Nat} {n p : Nat} {t : Nat → Int32} {post : Int32 → Prop} (ht : z_tx u n t) (hp : p ≤ n) (h1 : p < n → post (nI (u p))) (h0 : ¬ p < n → post (-1)) : wX7_see (nI p) (nI n) t post := by
  have hn := ht.1
  unfold wX7_see
  rw [nI_leI (by omega) (by omega)]
  refine ⟨fun g => h0 (by omega), fun g => ?_⟩
  obtain ⟨hu, e⟩ := ht.2 p (by omega)
  rw [nI_clamp (by omega), e, (b8_c _ hu).2.2.2]
  exact ⟨vp_in_nI (by omega) (by omega), h1 (by omega)⟩
theorem s7_inC {c a b : Nat} {post : Int32 → Prop} (hc : c < 2 ^ 31) (ha : a < 2 ^ 31) (hb : b < 2 ^ 31) (h1 : a ≤ c ∧ c ≤ b → post 1) (h0 : ¬ (a ≤ c ∧ c ≤ b) → post 0) : wX7_in post (nI c).toInt64 (lN a) (lN b) := by
  refine s7_inI ha hb (fun m e x y => ?_) (fun h => h0 (fun z => h ⟨c, rfl, z.1, z.2⟩))
  have : c = m := (nI_eq (by omega) (by omega)).mp e
  subst this
  exact h1 ⟨x, y⟩
theorem s7_inM {b : Nat} {post : Int32 → Prop} {a : Nat} (ha : a < 2 ^ 31) (hb : b < 2 ^ 31) (h0 : post 0) : wX7_in post (-1 : Int32).toInt64 (lN a) (lN b) := by
  refine s7_inI ha hb (fun m e x y => ?_) (fun _ => h0)
  exact absurd e.symm (z_n1 (by omega))
def y_T (u : Nat → Nat) (n b : Nat) (reached begin sort : Int32) (value word : Int64) : Prop :=
  begin = nI b ∧ ((¬ b < n ∧ sort = 0) ∨ (b < n ∧ sort = nI (z_tk u n b).1 ∧ reached = nI (z_tk u n b).2.1 ∧ ((z_tk u n b).1 = 3 → value = lN (z_tk u n b).2.2) ∧ ((z_tk u n b).1 = 2 → y_W (z_tk u n b).2.2 word)))
theorem s7_token_77 {u : Nat → Nat} {n b : Nat} {t : Nat → Int32} {begin sort : Int32} {value : Int64} {post : Int32 → Int32 → Int32 → Int64 → Int64 → Prop} (ht : z_tx u n t) (hb : b < n) (hlb : z_lt (u b) = true) (hk : ∀ w, y_W (z_wd u b (z_en (fun i => z_lt (u i)) n b)) w → post (nI (z_en (fun i => z_lt (u i)) n b)) begin 2 value w) :
    ∀ (r k : Nat) (w : Int64), b + k ≤ n → n ≤ b + k + r → (∀ i, i < k → z_lt (u (b + i)) = true) → z_ru (fun i => z_lt (u i)) n r (b + k) = z_en (fun i => z_lt (u i)) n b → (k ≤ 8 → w = lN (z_wv u b k)) → wX7_token_77 (nI n) t post (r + 1) (nI (b + k)) begin sort value w (nI k) := by
  have hn := ht.1
  have fin : ∀ (k : Nat) (w : Int64), b + k ≤ n → (∀ i, i < k → z_lt (u (b + i)) = true) → b + k = z_en (fun i => z_lt (u i)) n b → (k ≤ 8 → w = lN (z_wv u b k)) → (nI k ≤ (8 : Int32) → post (nI (b + k)) begin 2 value w) ∧ (¬ nI k ≤ (8 : Int32) → post (nI (b + k)) begin 2 value 0) := by
    intro k w h1 h2 h3 h4
    rw [← h3] at hk
    rw [show (8 : Int32) = nI 8 from rfl, nI_leI (by omega) (by omega)]
    refine ⟨fun g => hk w (y_W_of h2 h4 (fun g2 => absurd g g2)), fun g => hk 0 (y_W_of h2 (fun g2 => absurd g2 g) (fun _ => rfl))⟩
  intro r
  induction r with
  | zero =>
    intro k w h1 h2 h3 h4 h5
    have e : b + k = z_en (fun i => z_lt (u i)) n b := h4
    refine s7_see ht h1 (fun g => by omega) (fun _ => ?_)
    refine s7_inM (a := 97) (b := 122) (by omega) (by omega) ?_
    exact ⟨fun _ => fin k w h1 h3 e h5, fun z => absurd rfl z⟩
  | succ r ih =>
    intro k w h1 h2 h3 h4 h5
    rw [z_ru_s] at h4
    by_cases g : b + k < n
    · obtain ⟨hu, e1⟩ := ht.2 (b + k) g
      have hz : z_lt (u (b + k)) = true ↔ (97 ≤ u (b + k) ∧ u (b + k) ≤ 122) := decide_eq_true_iff
      refine s7_see ht h1 (fun _ => ?_) (fun z => absurd g z)
      refine s7_inC (a := 97) (b := 122) (by omega) (by omega) (by omega) (fun q => ?_) (fun q => ?_)
      · rw [if_pos ⟨g, hz.mpr q⟩] at h4
        refine ⟨fun z => absurd z (by decide), fun _ => ?_⟩
        refine s7_see ht h1 (fun _ => ?_) (fun z => absurd g z)
        unfold wX7_token_106
        rw [show (1 : Int32) = nI 1 from rfl, nI_add, nI_add, nI_l (by omega)]
        refine ih (k + 1) _ (by omega) (by omega) (fun i hi => ?_) h4 (fun h8 => ?_)
        · by_cases ei : i = k
          · rw [ei]; exact hz.mpr q
          · exact h3 i (by omega)
        · rw [h5 (by omega), show ((8 : Int32)) = nI 8 from rfl, wb_shl _ (by omega)]
          have hlt := z_wv_lt (u := u) (p := b) (k := k) (fun i hi => by have := (decide_eq_true_iff.mp (h3 i hi)).2; omega)
          have h64 : 256 ^ k ≤ 256 ^ 7 := Nat.pow_le_pow_right (by omega) (by omega)
          have e64 : 256 ^ 7 = 2 ^ 56 := rfl
          have o1 := Nat.two_pow_add_eq_or_of_lt (i := 8) (b := u (b + k)) (by omega) (z_wv u b k)
          rw [Nat.mul_comm, wb_or (by omega) (by omega), ← o1]
          show lN _ = lN (z_wv u b k * 256 + u (b + k))
          congr 1
          omega
      · rw [if_neg (fun z => q (hz.mp z.2))] at h4
        exact ⟨fun _ => fin k w h1 h3 h4 h5, fun z => absurd rfl z⟩
    · rw [if_neg (fun z => g z.1)] at h4
      refine s7_see ht h1 (fun z => absurd z g) (fun _ => ?_)
      refine s7_inM (a := 97) (b := 122) (by omega) (by omega) ?_
      exact ⟨fun _ => fin k w h1 h3 h4 h5, fun z => absurd rfl z⟩
theorem s7_token_172 {u : Nat → Nat} {n b : Nat} {t : Nat → Int32} {begin sort : Int32} {word : Int64} {post : Int32 → Int32 → Int32 → Int64 → Int64 → Prop} (ht : z_tx u n t) (hb : b < n) (hk : ∀ v, (¬ 10 < z_en (fun i => z_dg (u i)) n b - b → v = lN (z_va u b (z_en (fun i => z_dg (u i)) n b - b))) → post (nI (z_en (fun i => z_dg (u i)) n b)) begin (if 10 < z_en (fun i => z_dg (u i)) n b - b then 1 else 3) v word) :
    ∀ (r k : Nat) (v : Int64), b + k ≤ n → n ≤ b + k + r → z_ru (fun i => z_dg (u i)) n r (b + k) = z_en (fun i => z_dg (u i)) n b → (k ≤ 10 → v = lN (z_va u b k)) → wX7_token_172 (nI n) t post (r + 1) (nI (b + k)) begin sort v word (nI k) := by
  have hn := ht.1
  have fin : ∀ (k : Nat) (v : Int64), b + k ≤ n → b + k = z_en (fun i => z_dg (u i)) n b → (k ≤ 10 → v = lN (z_va u b k)) → (nI k ≤ (10 : Int32) → post (nI (b + k)) begin 3 v word) ∧ (¬ nI k ≤ (10 : Int32) → post (nI (b + k)) begin 1 v word) := by
    intro k v h1 h3 h4
    rw [← h3, show b + k - b = k by omega] at hk
    rw [show (10 : Int32) = nI 10 from rfl, nI_leI (by omega) (by omega)]
    refine ⟨fun g => ?_, fun g => ?_⟩
    · have h := hk v (fun _ => h4 g)
      rw [if_neg (by omega)] at h
      exact h
    · have h := hk v (fun g2 => absurd (by omega) g2)
      rw [if_pos (by omega)] at h
      exact h
  intro r
  induction r with
  | zero =>
    intro k v h1 h2 h4 h5
    have e : b + k = z_en (fun i => z_dg (u i)) n b := h4
    refine s7_see ht h1 (fun g => by omega) (fun _ => ?_)
    refine s7_inM (a := 48) (b := 57) (by omega) (by omega) ?_
    exact ⟨fun _ => fin k v h1 e h5, fun z => absurd rfl z⟩
  | succ r ih =>
    intro k v h1 h2 h4 h5
    rw [z_ru_s] at h4
    by_cases g : b + k < n
    · obtain ⟨hu, e1⟩ := ht.2 (b + k) g
      have hz : z_dg (u (b + k)) = true ↔ (48 ≤ u (b + k) ∧ u (b + k) ≤ 57) := decide_eq_true_iff
      refine s7_see ht h1 (fun _ => ?_) (fun z => absurd g z)
      refine s7_inC (a := 48) (b := 57) (by omega) (by omega) (by omega) (fun q => ?_) (fun q => ?_)
      · rw [if_pos ⟨g, hz.mpr q⟩] at h4
        refine ⟨fun z => absurd z (by decide), fun _ => ?_⟩
        rw [show (10 : Int32) = nI 10 from rfl, nI_leI (by omega) (by omega)]
        refine ⟨fun g10 => ?_, fun g10 => ?_⟩
        · unfold wX7_token_221
          rw [show (1 : Int32) = nI 1 from rfl, nI_add, nI_add]
          exact ih (k + 1) v (by omega) (by omega) h4 (fun h => by omega)
        · refine s7_see ht h1 (fun _ => ?_) (fun z => absurd g z)
          unfold wX7_token_208 wX7_token_221
          rw [show (1 : Int32) = nI 1 from rfl, nI_add, nI_add, nI_l (by omega), h5 (by omega), show (10 : Int64) = lN 10 from rfl, lN_mul, lN_add, show (48 : Int64) = lN 48 from rfl, lN_sub (by omega)]
          refine ih (k + 1) _ (by omega) (by omega) h4 (fun _ => ?_)
          show lN _ = lN (10 * z_va u b k + (u (b + k) - 48))
          congr 1
          omega
      · rw [if_neg (fun z => q (hz.mp z.2))] at h4
        exact ⟨fun _ => fin k v h1 h4 h5, fun z => absurd rfl z⟩
    · rw [if_neg (fun z => g z.1)] at h4
      refine s7_see ht h1 (fun z => absurd z g) (fun _ => ?_)
      refine s7_inM (a := 48) (b := 57) (by omega) (by omega) ?_
      exact ⟨fun _ => fin k v h1 h4 h5, fun z => absurd rfl z⟩
theorem s7_token_43 {u : Nat → Nat} {n b : Nat} {t : Nat → Int32} {sort : Int32} {value word : Int64} {post : Int32 → Int32 → Int32 → Int64 → Int64 → Prop} (ht : z_tx u n t) (hb : b ≤ n) (hk : ∀ reached begin sort value word, y_T u n b reached begin sort value word → post reached begin sort value word) :
    wX7_see (nI b) (nI n) t (fun r40 => wX7_token_43 (nI n) t post (nI b) (nI b) sort value word r40) := by
  have hn := ht.1
  refine s7_see ht hb (fun g => ?_) (fun g => ?_)
  · obtain ⟨hu, e1⟩ := ht.2 b g
    refine ⟨fun _ => ?_, fun z => absurd (by rw [show (0 : Int32) = nI 0 from rfl, nI_leI (by omega) (by omega)]; omega) z⟩
    refine s7_inC (a := 97) (b := 122) (by omega) (by omega) (by omega) (fun q => ?_) (fun q => ?_)
    · have hl : z_lt (u b) = true := decide_eq_true_iff.mpr q
      refine ⟨fun z => absurd z (by decide), fun _ => ⟨_, s7_token_77 ht g hl (fun w hw => ?_) (n - b) 0 0 (by omega) (by omega) (fun i hi => absurd hi (Nat.not_lt_zero _)) rfl (fun _ => rfl)⟩⟩
      refine hk _ _ _ _ _ ⟨rfl, Or.inr ⟨g, ?_, ?_, ?_, ?_⟩⟩
      · rw [z_tk_word hl]; rfl
      · rw [z_tk_word hl]
      · rw [z_tk_word hl]; intro h; exact absurd (show (2 : Nat) = 3 from h) (by omega)
      · rw [z_tk_word hl]; exact fun _ => hw
    · have hl : ¬ z_lt (u b) = true := fun z => q (decide_eq_true_iff.mp z)
      refine ⟨fun _ => ?_, fun z => absurd rfl z⟩
      refine s7_inC (a := 48) (b := 57) (by omega) (by omega) (by omega) (fun q2 => ?_) (fun q2 => ?_)
      · have hd : z_dg (u b) = true := decide_eq_true_iff.mpr q2
        refine ⟨fun z => absurd z (by decide), fun _ => ⟨_, s7_token_172 ht g (fun v hv => ?_) (n - b) 0 0 (by omega) (by omega) rfl (fun _ => rfl)⟩⟩
        by_cases g3 : 10 < z_en (fun i => z_dg (u i)) n b - b
        · rw [if_pos g3]
          refine hk _ _ _ _ _ ⟨rfl, Or.inr ⟨g, ?_, ?_, ?_, ?_⟩⟩
          · rw [z_tk_long hl hd g3]; rfl
          · rw [z_tk_long hl hd g3]
          · rw [z_tk_long hl hd g3]; intro h; exact absurd (show (1 : Nat) = 3 from h) (by omega)
          · rw [z_tk_long hl hd g3]; intro h; exact absurd (show (1 : Nat) = 2 from h) (by omega)
        · rw [if_neg g3]
          refine hk _ _ _ _ _ ⟨rfl, Or.inr ⟨g, ?_, ?_, ?_, ?_⟩⟩
          · rw [z_tk_num hl hd g3]; rfl
          · rw [z_tk_num hl hd g3]
          · rw [z_tk_num hl hd g3]; exact fun _ => hv g3
          · rw [z_tk_num hl hd g3]; intro h; exact absurd (show (3 : Nat) = 2 from h) (by omega)
      · have hd : ¬ z_dg (u b) = true := fun z => q2 (decide_eq_true_iff.mp z)
        refine ⟨fun _ => ?_, fun z => absurd rfl z⟩
        unfold wX7_token_280
        rw [show (59 : Int32) = nI 59 from rfl, nI_eq (by omega) (by omega), show (1 : Int32) = nI 1 from rfl, nI_add]
        refine ⟨fun q3 => ?_, fun q3 => ?_⟩
        · refine hk _ _ _ _ _ ⟨rfl, Or.inr ⟨g, ?_, ?_, ?_, ?_⟩⟩
          · rw [z_tk_sign hl hd q3]; rfl
          · rw [z_tk_sign hl hd q3]
          · rw [z_tk_sign hl hd q3]; intro h; exact absurd (show (4 : Nat) = 3 from h) (by omega)
          · rw [z_tk_sign hl hd q3]; intro h; exact absurd (show (4 : Nat) = 2 from h) (by omega)
        · refine hk _ _ _ _ _ ⟨rfl, Or.inr ⟨g, ?_, ?_, ?_, ?_⟩⟩
          · rw [z_tk_bad hl hd q3]
          · rw [z_tk_bad hl hd q3]
          · rw [z_tk_bad hl hd q3]; intro h; exact absurd (show (1 : Nat) = 3 from h) (by omega)
          · rw [z_tk_bad hl hd q3]; intro h; exact absurd (show (1 : Nat) = 2 from h) (by omega)
  · refine ⟨fun z => absurd z (by decide), fun _ => ?_⟩
    exact hk _ _ _ _ _ ⟨rfl, Or.inl ⟨g, rfl⟩⟩
theorem s7_token {u : Nat → Nat} {n p : Nat} {t : Nat → Int32} {begin sort : Int32} {value word : Int64} {post : Int32 → Int32 → Int32 → Int64 → Int64 → Prop} (ht : z_tx u n t) (hp : p ≤ n) (hk : ∀ reached begin sort value word, y_T u n (z_en (fun i => z_bl (u i)) n p) reached begin sort value word → post reached begin sort value word) :
    wX7_token (nI n) t post (nI p) begin sort value word := by
  have hn := ht.1
  have key : ∀ (r p : Nat), p ≤ n → n ≤ p + r → (∀ reached begin sort value word, y_T u n (z_ru (fun i => z_bl (u i)) n r p) reached begin sort value word → post reached begin sort value word) → wX7_token_0 (nI n) t post (r + 1) (nI p) begin sort value word := by
    intro r
    induction r with
    | zero =>
      intro p h1 h2 h3
      refine s7_see ht h1 (fun g => by omega) (fun _ => ?_)
      refine ⟨fun z => absurd z (by decide), fun _ => ?_⟩
      refine s7_see ht h1 (fun g => by omega) (fun _ => ?_)
      refine ⟨fun z => absurd z (by decide), fun _ => ?_⟩
      exact s7_token_43 ht h1 h3
    | succ r ih =>
      intro p h1 h2 h3
      rw [z_ru_s] at h3
      by_cases g : p < n
      · obtain ⟨hu, e1⟩ := ht.2 p g
        have hz : z_bl (u p) = true ↔ (u p = 32 ∨ u p = 10) := decide_eq_true_iff
        have step : (u p = 32 ∨ u p = 10) → wX7_token_0 (nI n) t post (r + 1) (nI p + 1) begin sort value word := fun hb => by
          rw [if_pos ⟨g, hz.mpr hb⟩] at h3
          rw [show (1 : Int32) = nI 1 from rfl, nI_add]
          exact ih (p + 1) (by omega) (by omega) h3
        refine s7_see ht h1 (fun _ => ?_) (fun z => absurd g z)
        refine ⟨fun q => step (Or.inr ?_), fun q => ?_⟩
        · rw [show (10 : Int32) = nI 10 from rfl, nI_eq (by omega) (by omega)] at q
          exact q
        · refine s7_see ht h1 (fun _ => ?_) (fun z => absurd g z)
          refine ⟨fun q2 => step (Or.inl ?_), fun q2 => ?_⟩
          · rw [show (32 : Int32) = nI 32 from rfl, nI_eq (by omega) (by omega)] at q2
            exact q2
          · rw [show (10 : Int32) = nI 10 from rfl, nI_eq (by omega) (by omega)] at q
            rw [show (32 : Int32) = nI 32 from rfl, nI_eq (by omega) (by omega)] at q2
            rw [if_neg (fun z => by
              rcases hz.mp z.2 with k | k
              · exact q2 k
              · exact q k)] at h3
            exact s7_token_43 ht h1 h3
      · rw [if_neg (fun z => g z.1)] at h3
        refine s7_see ht h1 (fun z => absurd z g) (fun _ => ?_)
        refine ⟨fun z => absurd z (by decide), fun _ => ?_⟩
        refine s7_see ht h1 (fun z => absurd z g) (fun _ => ?_)
        refine ⟨fun z => absurd z (by decide), fun _ => ?_⟩
        exact s7_token_43 ht h1 h3
  exact ⟨_, key (n - p) p hp (by omega) hk⟩
