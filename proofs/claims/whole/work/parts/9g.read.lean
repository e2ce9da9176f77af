/-! the text read: tokens, what each does; the class's reader -/
theorem b8_c : ∀ u, u < 256 → (z_b8 u = 32 ↔ u = 32) ∧ (z_b8 u = 10 ↔ u = 10) ∧ (z_b8 u = 59 ↔ u = 59) ∧ z_b8 u &&& 255 = nI u := by decide +kernel
theorem b8_let : ∀ u, u < 256 → ((z_b8 u < 97 ∨ 122 < z_b8 u) ↔ ¬ (97 ≤ u ∧ u ≤ 122)) := by decide +kernel
theorem b8_dig : ∀ u, u < 256 → ((z_b8 u < 48 ∨ 57 < z_b8 u) ↔ ¬ (48 ≤ u ∧ u ≤ 57)) := by decide +kernel
theorem b8_lo : ∀ u, u < 128 → z_b8 u = nI u := by decide +kernel
def z_lt (c : Nat) : Bool := decide (97 ≤ c ∧ c ≤ 122)
def z_dg (c : Nat) : Bool := decide (48 ≤ c ∧ c ≤ 57)
def z_bl (c : Nat) : Bool := decide (c = 32 ∨ c = 10)
/-- how far a row of such bytes goes -/
def z_ru (f : Nat → Bool) (n : Nat) : Nat → Nat → Nat
  | 0, p => p
  | r + 1, p => if p < n ∧ f p = true then z_ru f n r (p + 1) else p
theorem z_ru_ok {f : Nat → Bool} {n : Nat} : ∀ {r p : Nat}, p ≤ z_ru f n r p ∧ (p ≤ n → z_ru f n r p ≤ n) ∧ (∀ i, p ≤ i → i < z_ru f n r p → f i = true) ∧ (n ≤ p + r → ¬ (z_ru f n r p < n ∧ f (z_ru f n r p) = true))
  | 0, p => ⟨Nat.le_refl _, fun h => h, fun i h1 h2 => absurd h2 (by show ¬ i < p; omega), fun h g => by have : p < n := g.1; omega⟩
  | r + 1, p => by
    unfold z_ru
    split
    · next g =>
      obtain ⟨a1, a2, a3, a4⟩ := z_ru_ok (f := f) (n := n) (r := r) (p := p + 1)
      refine ⟨by omega, fun _ => a2 (by omega), fun i h1 h2 => ?_, fun h => a4 (by omega)⟩
      by_cases e : i = p
      · rw [e]; exact g.2
      · exact a3 i (by omega) h2
    · next g => exact ⟨Nat.le_refl _, fun h => h, fun i h1 h2 => by omega, fun _ => g⟩
abbrev z_en (f : Nat → Bool) (n p : Nat) : Nat := z_ru f n (n - p) p
theorem z_en_gt {f : Nat → Bool} {n p : Nat} (hp : p < n) (hf : f p = true) : p < z_en f n p := by
  unfold z_en
  rw [show n - p = (n - p - 1) + 1 by omega]
  unfold z_ru
  rw [if_pos ⟨hp, hf⟩]
  have := (z_ru_ok (f := f) (n := n) (r := n - p - 1) (p := p + 1)).1
  omega
/-- a number of digits -/
def z_va (u : Nat → Nat) (p : Nat) : Nat → Nat
  | 0 => 0
  | k + 1 => 10 * z_va u p k + (u (p + k) - 48)
theorem z_va_lt {u : Nat → Nat} {p : Nat} : ∀ {k : Nat}, (∀ i, i < k → u (p + i) ≤ 57) → z_va u p k < 10 ^ k
  | 0, _ => by decide
  | k + 1, h => by
    have a := z_va_lt (u := u) (p := p) (k := k) (fun i hi => h i (by omega))
    have b := h k (by omega)
    show 10 * z_va u p k + (u (p + k) - 48) < 10 ^ (k + 1)
    rw [Nat.pow_succ]
    omega
/-- which word: 1 room, 2 most, 3 item -/
def z_is (u : Nat → Nat) (p e a b c d : Nat) : Bool := decide (e = p + 4 ∧ u p = a ∧ u (p + 1) = b ∧ u (p + 2) = c ∧ u (p + 3) = d)
def z_wd (u : Nat → Nat) (p e : Nat) : Nat := if z_is u p e 114 111 111 109 = true then 1 else if z_is u p e 109 111 115 116 = true then 2 else if z_is u p e 105 116 101 109 = true then 3 else 0
/-- kind, end, value of the token at a place: 1 none, 2 a word, 3 a number, 4 the sign -/
def z_tk (u : Nat → Nat) (n p : Nat) : Nat × Nat × Nat :=
  if z_lt (u p) = true then (2, z_en (fun i => z_lt (u i)) n p, z_wd u p (z_en (fun i => z_lt (u i)) n p))
  else if z_dg (u p) = true then (if 10 < z_en (fun i => z_dg (u i)) n p - p then (1, z_en (fun i => z_dg (u i)) n p, 0) else (3, z_en (fun i => z_dg (u i)) n p, z_va u p (z_en (fun i => z_dg (u i)) n p - p)))
  else if u p = 59 then (4, p + 1, 0) else (1, p + 1, 0)
theorem z_tk_end {u : Nat → Nat} {n p : Nat} (hp : p < n) : p < (z_tk u n p).2.1 ∧ (z_tk u n p).2.1 ≤ n := by
  unfold z_tk
  split
  · next g => exact ⟨z_en_gt (f := fun i => z_lt (u i)) hp g, (z_ru_ok (f := fun i => z_lt (u i))).2.1 (by omega)⟩
  · split
    · next g =>
      have a := z_en_gt (f := fun i => z_dg (u i)) hp g
      have b := (z_ru_ok (f := fun i => z_dg (u i)) (n := n) (r := n - p) (p := p)).2.1 (by omega)
      split
      · exact ⟨a, b⟩
      · exact ⟨a, b⟩
    · split
      · exact ⟨by show p < p + 1; omega, hp⟩
      · exact ⟨by show p < p + 1; omega, hp⟩
/-- due, weight, fault, its place, the load told -/
abbrev ZR : Type := Nat × Nat × Nat × Nat × ZL
def z_note (k b : Nat) (s : ZR) : ZR := if s.2.2.1 = 0 then (s.1, s.2.1, k, b, s.2.2.2.2) else s
def z_nit (b v sum : Nat) (s : ZR) : ZR := if 1 ≤ v ∧ v ≤ 999999999 then (if 2147483647 < sum + v then z_note 4 b s else s) else z_note 2 b s
def z_lR (v : Nat) (s : ZR) : ZR := (s.1, s.2.1, s.2.2.1, s.2.2.2.1, s.2.2.2.2.1, s.2.2.2.2.2.1, s.2.2.2.2.2.2.1, v, s.2.2.2.2.2.2.2.2.1, s.2.2.2.2.2.2.2.2.2)
def z_lM (v : Nat) (s : ZR) : ZR := (s.1, s.2.1, s.2.2.1, s.2.2.2.1, s.2.2.2.2.1, s.2.2.2.2.2.1, s.2.2.2.2.2.2.1, s.2.2.2.2.2.2.2.1, v, s.2.2.2.2.2.2.2.2.2)
def z_put (v : Nat) (s : ZR) : ZR := (s.1, s.2.1, s.2.2.1, s.2.2.2.1, s.2.2.2.2.1 + 1, z_up s.2.2.2.2.2.1 s.2.2.2.2.1 s.2.1, z_up s.2.2.2.2.2.2.1 s.2.2.2.2.1 v, s.2.2.2.2.2.2.2)
def z_pt (v : Nat) (s : ZR) : ZR := if s.2.2.1 = 0 then z_put v s else s
def z_num (b v : Nat) (s : ZR) : Option ZR :=
  if s.1 = 1 then some (5, (if v ≤ 2000000000 then z_lR v s else z_note 2 b s).2)
  else if s.1 = 2 then some (5, (if 2 ≤ v ∧ v ≤ 1000 then z_lM v s else z_note 2 b s).2)
  else if s.1 = 3 then some (4, v, (z_nit b v (z_sm s.2.2.2.2.2.1 s.2.2.2.2.1) s).2.2)
  else if s.1 = 4 then some (5, (z_pt v (z_nit b v (z_sm s.2.2.2.2.2.2.1 s.2.2.2.2.1) s)).2)
  else none
def z_word (b w : Nat) (s : ZR) : Option ZR :=
  if s.1 = 0 then (if w = 1 then some (1, s.2) else if w = 2 then some (2, s.2) else if w = 3 then some (3, (if 60 ≤ s.2.2.2.2.1 then z_note 3 b s else s).2) else none) else none
def z_act (k b v : Nat) (s : ZR) : Option ZR := if k = 2 then z_word b v s else if k = 3 then z_num b v s else if k = 4 then (if s.1 = 5 then some (0, s.2) else none) else none
/-- all of it, from a place where no blank is -/
def z_rd (u : Nat → Nat) (n : Nat) : Nat → Nat → ZR → Nat × Nat × ZL
  | 0, p, s => (1, p, s.2.2.2.2)
  | r + 1, p, s => if p < n then (match z_act (z_tk u n p).1 p (z_tk u n p).2.2 s with
      | none => (1, p, s.2.2.2.2)
      | some s' => z_rd u n r (z_en (fun i => z_bl (u i)) n (z_tk u n p).2.1) s')
    else if s.1 = 0 then (s.2.2.1, s.2.2.2.1, s.2.2.2.2) else (1, n, s.2.2.2.2)
def z_inv (s : ZR) : Prop := l_lim s.2.2.2.2 ∧ s.2.2.2.2.2.2.2.2.2 = 0 ∧ s.1 ≤ 5 ∧ s.2.2.1 ≤ 4 ∧ s.2.2.2.1 ≤ 600 ∧ (s.2.2.1 = 0 → (s.1 = 3 ∨ s.1 = 4) → s.2.2.2.2.1 < 60) ∧ (s.2.2.1 = 0 → s.1 = 4 → 1 ≤ s.2.1 ∧ z_sm s.2.2.2.2.2.1 s.2.2.2.2.1 + s.2.1 ≤ 2147483647)
theorem z_note_2 (k b : Nat) (s : ZR) : (z_note k b s).1 = s.1 ∧ (z_note k b s).2.1 = s.2.1 ∧ (z_note k b s).2.2.2.2 = s.2.2.2.2 ∧ (k ≠ 0 → (z_note k b s).2.2.1 ≠ 0) ∧ (k ≤ 4 → s.2.2.1 ≤ 4 → (z_note k b s).2.2.1 ≤ 4) ∧ (b ≤ 600 → s.2.2.2.1 ≤ 600 → (z_note k b s).2.2.2.1 ≤ 600) := by
  unfold z_note
  split
  · exact ⟨rfl, rfl, rfl, fun h => h, fun h _ => h, fun h _ => h⟩
  · next g => exact ⟨rfl, rfl, rfl, fun _ => g, fun _ h => h, fun _ h => h⟩
theorem z_nit_2 (b v sum : Nat) (s : ZR) : (z_nit b v sum s).1 = s.1 ∧ (z_nit b v sum s).2.1 = s.2.1 ∧ (z_nit b v sum s).2.2.2.2 = s.2.2.2.2 ∧ ((z_nit b v sum s).2.2.1 = 0 → s.2.2.1 = 0 ∧ (1 ≤ v ∧ v ≤ 999999999) ∧ sum + v ≤ 2147483647) ∧ (s.2.2.1 ≤ 4 → (z_nit b v sum s).2.2.1 ≤ 4) ∧ (b ≤ 600 → s.2.2.2.1 ≤ 600 → (z_nit b v sum s).2.2.2.1 ≤ 600) := by
  obtain ⟨a1, a2, a3, a4, a5, a6⟩ := z_note_2 2 b s
  obtain ⟨b1, b2, b3, b4, b5, b6⟩ := z_note_2 4 b s
  unfold z_nit
  split
  · next g =>
    split
    · exact ⟨b1, b2, b3, fun h => absurd h (b4 (by omega)), fun h => b5 (by omega) h, b6⟩
    · next g2 => exact ⟨rfl, rfl, rfl, fun h => ⟨h, g, by omega⟩, fun h => h, fun _ h => h⟩
  · exact ⟨a1, a2, a3, fun h => absurd h (a4 (by omega)), fun h => a5 (by omega) h, a6⟩
theorem z_act_inv {k b v : Nat} {s s' : ZR} (hb : b ≤ 600) (hi : z_inv s) (h : z_act k b v s = some s') : z_inv s' := by
  obtain ⟨i1, i2, i3, i4, i5, i6, i7⟩ := hi
  unfold z_act at h
  split at h
  · unfold z_word at h
    split at h
    · next d =>
      split at h
      · cases h
        exact ⟨i1, i2, by show 1 ≤ 5; omega, i4, i5, fun _ g => by have g' : (1 : Nat) = 3 ∨ (1 : Nat) = 4 := g; omega, fun _ g => by have g' : (1 : Nat) = 4 := g; omega⟩
      · split at h
        · cases h
          exact ⟨i1, i2, by show 2 ≤ 5; omega, i4, i5, fun _ g => by have g' : (2 : Nat) = 3 ∨ (2 : Nat) = 4 := g; omega, fun _ g => by have g' : (2 : Nat) = 4 := g; omega⟩
        · split at h
          · cases h
            obtain ⟨a1, a2, a3, a4, a5, a6⟩ := z_note_2 3 b s
            split
            · next g60 => exact ⟨by rw [a3]; exact i1, by rw [a3]; exact i2, by show 3 ≤ 5; omega, a5 (by omega) i4, a6 hb i5, fun g => absurd g (a4 (by omega)), fun _ g => by have g' : (3 : Nat) = 4 := g; omega⟩
            · next g60 => exact ⟨i1, i2, by show 3 ≤ 5; omega, i4, i5, fun _ _ => by show s.2.2.2.2.1 < 60; omega, fun _ g => by have g' : (3 : Nat) = 4 := g; omega⟩
          · cases h
    · cases h
  · split at h
    · unfold z_num at h
      split at h
      · cases h
        split
        · next g =>
          obtain ⟨l1, l2, l3, l4, l5, l6, l7⟩ := i1
          exact ⟨⟨l1, l2, l3, l4, g, l6, l7⟩, i2, by show 5 ≤ 5; omega, i4, i5, fun _ g => by have g' : (5 : Nat) = 3 ∨ (5 : Nat) = 4 := g; omega, fun _ g => by have g' : (5 : Nat) = 4 := g; omega⟩
        · obtain ⟨a1, a2, a3, a4, a5, a6⟩ := z_note_2 2 b s
          exact ⟨by rw [a3]; exact i1, by rw [a3]; exact i2, by show 5 ≤ 5; omega, a5 (by omega) i4, a6 hb i5, fun g => absurd g (a4 (by omega)), fun _ g => by have g' : (5 : Nat) = 4 := g; omega⟩
      · split at h
        · cases h
          split
          · next g =>
            obtain ⟨l1, l2, l3, l4, l5, l6, l7⟩ := i1
            exact ⟨⟨l1, l2, l3, l4, l5, g.1, g.2⟩, i2, by show 5 ≤ 5; omega, i4, i5, fun _ g => by have g' : (5 : Nat) = 3 ∨ (5 : Nat) = 4 := g; omega, fun _ g => by have g' : (5 : Nat) = 4 := g; omega⟩
          · obtain ⟨a1, a2, a3, a4, a5, a6⟩ := z_note_2 2 b s
            exact ⟨by rw [a3]; exact i1, by rw [a3]; exact i2, by show 5 ≤ 5; omega, a5 (by omega) i4, a6 hb i5, fun g => absurd g (a4 (by omega)), fun _ g => by have g' : (5 : Nat) = 4 := g; omega⟩
        · split at h
          · next d3 =>
            cases h
            obtain ⟨a1, a2, a3, a4, a5, a6⟩ := z_nit_2 b v (z_sm s.2.2.2.2.2.1 s.2.2.2.2.1) s
            refine ⟨by rw [a3]; exact i1, by rw [a3]; exact i2, by show 4 ≤ 5; omega, a5 i4, a6 hb i5, fun g _ => ?_, fun g _ => ?_⟩
            · rw [a3]
              exact i6 (a4 g).1 (Or.inl d3)
            · rw [a3]
              exact ⟨(a4 g).2.1.1, (a4 g).2.2⟩
          · split at h
            · next d4 =>
              cases h
              obtain ⟨a1, a2, a3, a4, a5, a6⟩ := z_nit_2 b v (z_sm s.2.2.2.2.2.2.1 s.2.2.2.2.1) s
              unfold z_pt
              split
              · next gf =>
                obtain ⟨f0, ⟨v1, v2⟩, v3⟩ := a4 gf
                have n60 := i6 f0 (Or.inr d4)
                obtain ⟨w1, w2⟩ := i7 f0 d4
                obtain ⟨l1, l2, l3, l4, l5, l6, l7⟩ := i1
                unfold z_put
                refine ⟨?_, ?_, by show 5 ≤ 5; omega, a5 i4, a6 hb i5, fun _ g => by have g' : (5 : Nat) = 3 ∨ (5 : Nat) = 4 := g; omega, fun _ g => by have g' : (5 : Nat) = 4 := g; omega⟩
                · rw [a2, a3]
                  refine ⟨n60, fun i hi => ?_, ?_, ?_, l5, l6, l7⟩
                  · show 1 ≤ z_up s.2.2.2.2.2.1 s.2.2.2.2.1 s.2.1 i ∧ 1 ≤ z_up s.2.2.2.2.2.2.1 s.2.2.2.2.1 v i
                    by_cases e : i = s.2.2.2.2.1
                    · rw [e, z_up_s, z_up_s]
                      exact ⟨w1, v1⟩
                    · rw [z_up_n e, z_up_n e]
                      exact l2 i (by have hi' : i < s.2.2.2.2.1 + 1 := hi; omega)
                  · show z_sm (z_up s.2.2.2.2.2.1 s.2.2.2.2.1 s.2.1) (s.2.2.2.2.1 + 1) < 2 ^ 31
                    rw [z_sm_new]
                    omega
                  · show z_sm (z_up s.2.2.2.2.2.2.1 s.2.2.2.2.1 v) (s.2.2.2.2.1 + 1) < 2 ^ 31
                    rw [z_sm_new]
                    omega
                · rw [a3]
                  exact i2
              · next gf => exact ⟨by rw [a3]; exact i1, by rw [a3]; exact i2, by show 5 ≤ 5; omega, a5 i4, a6 hb i5, fun _ g => by have g' : (5 : Nat) = 3 ∨ (5 : Nat) = 4 := g; omega, fun _ g => by have g' : (5 : Nat) = 4 := g; omega⟩
            · cases h
    · split at h
      · split at h
        · cases h
          exact ⟨i1, i2, by show 0 ≤ 5; omega, i4, i5, fun _ g => by have g' : (0 : Nat) = 3 ∨ (0 : Nat) = 4 := g; omega, fun _ g => by have g' : (0 : Nat) = 4 := g; omega⟩
        · cases h
      · cases h
/-! the class's reader -/
def z_tx (u : Nat → Nat) (n : Nat) (t : Nat → Int32) : Prop := n ≤ 600 ∧ ∀ k, k < n → u k < 256 ∧ t k = z_b8 (u k)
theorem s3_isLetter {c : Nat} {post : Int32 → Prop} (hc : c < 256) (h1 : z_lt c = true → post 1) (h0 : ¬ z_lt c = true → post 0) : wX3_isLetter post (z_b8 c) := by
  have h := b8_let c hc
  have hz : z_lt c = true ↔ (97 ≤ c ∧ c ≤ 122) := decide_eq_true_iff
  unfold wX3_isLetter
  refine ⟨fun g => h0 ?_, fun g => ⟨fun g2 => h0 ?_, fun g2 => h1 ?_⟩⟩
  · rw [hz]; exact h.mp (Or.inl g)
  · rw [hz]; exact h.mp (Or.inr g2)
  · rw [hz]
    refine Classical.byContradiction (fun k => ?_)
    rcases h.mpr k with k1 | k1
    · exact g k1
    · exact g2 k1
theorem s3_isDigit {c : Nat} {post : Int32 → Prop} (hc : c < 256) (h1 : z_dg c = true → post 1) (h0 : ¬ z_dg c = true → post 0) : wX3_isDigit post (z_b8 c) := by
  have h := b8_dig c hc
  have hz : z_dg c = true ↔ (48 ≤ c ∧ c ≤ 57) := decide_eq_true_iff
  unfold wX3_isDigit
  refine ⟨fun g => h0 ?_, fun g => ⟨fun g2 => h0 ?_, fun g2 => h1 ?_⟩⟩
  · rw [hz]; exact h.mp (Or.inl g)
  · rw [hz]; exact h.mp (Or.inr g2)
  · rw [hz]
    refine Classical.byContradiction (fun k => ?_)
    rcases h.mpr k with k1 | k1
    · exact g k1
    · exact g2 k1
theorem s3_behindBlanks {u : Nat → Nat} {n p : Nat} {t : Nat → Int32} {post : Int32 → Prop} (ht : z_tx u n t) (hp : p ≤ n) (hk : post (nI (z_en (fun i => z_bl (u i)) n p))) : wX3_behindBlanks t 600 post (nI p) (nI n) := by
  obtain ⟨hn, ht⟩ := ht
  have key : ∀ (r p : Nat), p ≤ n → n ≤ p + r → post (nI (z_ru (fun i => z_bl (u i)) n r p)) → wX3_behindBlanks_2 t 600 post (r + 1) (nI n) (nI p) := by
    intro r
    induction r with
    | zero =>
      intro p h1 h2 h3
      refine ⟨fun _ => h3, fun g => ?_⟩
      rw [nI_leI (by omega) (by omega)] at g
      omega
    | succ r ih =>
      intro p h1 h2 h3
      unfold z_ru at h3
      refine ⟨fun g => ?_, fun g => ?_⟩
      · rw [nI_leI (by omega) (by omega)] at g
        rw [if_neg (by omega)] at h3
        exact h3
      · rw [nI_leI (by omega) (by omega)] at g
        obtain ⟨hu, e⟩ := ht p (by omega)
        obtain ⟨c1, c2, c3, c4⟩ := b8_c (u p) hu
        have hz : z_bl (u p) = true ↔ (u p = 32 ∨ u p = 10) := decide_eq_true_iff
        have step : (u p = 32 ∨ u p = 10) → wX3_behindBlanks_2 t 600 post (r + 1) (nI n) (nI p + 1) := fun hb => by
          rw [if_pos ⟨by omega, hz.mpr hb⟩] at h3
          rw [show (1 : Int32) = nI 1 from rfl, nI_add]
          exact ih (p + 1) (by omega) (by omega) h3
        rw [nI_clamp (by omega), e]
        refine ⟨vp_in_nI (by omega) (by omega), fun g2 => step (Or.inl (c1.mp g2)), fun g2 => ⟨vp_in_nI (by omega) (by omega), fun g3 => step (Or.inr (c2.mp g3)), fun g3 => ?_⟩⟩
        rw [if_neg (fun q => by
          rcases hz.mp q.2 with k | k
          · exact g2 (c1.mpr k)
          · exact g3 (c2.mpr k))] at h3
        exact h3
  exact ⟨_, key (n - p) p hp (by omega) hk⟩
/-- where the class's token ends: at its begin, if it is none -/
def z_te (u : Nat → Nat) (n p : Nat) : Nat := if (z_tk u n p).1 = 1 then p else (z_tk u n p).2.1
theorem s3_endOfToken {u : Nat → Nat} {n p : Nat} {t : Nat → Int32} {post : Int32 → Prop} (ht : z_tx u n t) (hp : p < n) (hk : post (nI (z_te u n p))) : wX3_endOfToken t 600 post (nI p) (nI n) := by
  obtain ⟨hn, ht⟩ := ht
  obtain ⟨hu, e⟩ := ht p hp
  unfold z_te z_tk at hk
  unfold wX3_endOfToken
  rw [nI_clamp (by omega), e]
  refine ⟨vp_in_nI (by omega) (by omega), s3_isLetter hu (fun g => ?_) (fun g => ?_)⟩
  · rw [if_pos g] at hk
    have hk' : post (nI (z_en (fun i => z_lt (u i)) n p)) := hk
    have key : ∀ (r q : Nat), q ≤ n → n ≤ q + r → post (nI (z_ru (fun i => z_lt (u i)) n r q)) → wX3_endOfToken_11 t 600 post (r + 1) (nI n) (nI q) := by
      intro r
      induction r with
      | zero =>
        intro q h1 h2 h3
        refine ⟨fun _ => h3, fun g => ?_⟩
        rw [nI_leI (by omega) (by omega)] at g
        omega
      | succ r ih =>
        intro q h1 h2 h3
        unfold z_ru at h3
        refine ⟨fun g => ?_, fun g => ?_⟩
        · rw [nI_leI (by omega) (by omega)] at g
          rw [if_neg (by omega)] at h3
          exact h3
        · rw [nI_leI (by omega) (by omega)] at g
          obtain ⟨hu2, e2⟩ := ht q (by omega)
          rw [nI_clamp (by omega), e2]
          refine ⟨vp_in_nI (by omega) (by omega), s3_isLetter hu2 (fun k => ?_) (fun k => ?_)⟩
          · rw [if_pos ⟨by omega, k⟩] at h3
            refine ⟨fun z => absurd z (by decide), fun _ => ?_⟩
            rw [show (1 : Int32) = nI 1 from rfl, nI_add]
            exact ih (q + 1) (by omega) (by omega) h3
          · rw [if_neg (fun z => k z.2)] at h3
            exact ⟨fun _ => h3, fun z => absurd rfl z⟩
    refine ⟨fun z => absurd z (by decide), fun _ => ⟨_, key (n - p) p (by omega) (by omega) hk'⟩⟩
  · rw [if_neg g] at hk
    refine ⟨fun _ => ?_, fun z => absurd rfl z⟩
    rw [nI_clamp (by omega), e]
    refine ⟨vp_in_nI (by omega) (by omega), s3_isDigit hu (fun g2 => ?_) (fun g2 => ?_)⟩
    · rw [if_pos g2] at hk
      have hfin : wX3_endOfToken_62 t 600 post (nI p) (nI n) (nI (z_en (fun i => z_dg (u i)) n p)) := by
        have b1 := z_en_gt (f := fun i => z_dg (u i)) hp g2
        have b2 := (z_ru_ok (f := fun i => z_dg (u i)) (n := n) (r := n - p) (p := p)).2.1 (by omega)
        have b2' : z_en (fun i => z_dg (u i)) n p ≤ n := b2
        generalize z_en (fun i => z_dg (u i)) n p = q at b1 b2' hk
        unfold wX3_endOfToken_62
        rw [nI_sub (by omega), show (10 : Int32) = nI 10 from rfl, nI_leI (by omega) (by omega)]
        refine ⟨fun k => ?_, fun k => ?_⟩
        · rw [if_neg (by omega)] at hk
          exact hk
        · rw [if_pos (by omega)] at hk
          exact hk
      have key : ∀ (r q : Nat), q ≤ n → n ≤ q + r → z_ru (fun i => z_dg (u i)) n r q = z_en (fun i => z_dg (u i)) n p → wX3_endOfToken_42 t 600 post (r + 1) (nI p) (nI n) (nI q) := by
        intro r
        induction r with
        | zero =>
          intro q h1 h2 h3
          have h3' : q = z_en (fun i => z_dg (u i)) n p := h3
          refine ⟨fun _ => by rw [h3']; exact hfin, fun g => ?_⟩
          rw [nI_leI (by omega) (by omega)] at g
          omega
        | succ r ih =>
          intro q h1 h2 h3
          unfold z_ru at h3
          refine ⟨fun g => ?_, fun g => ?_⟩
          · rw [nI_leI (by omega) (by omega)] at g
            rw [if_neg (by omega)] at h3
            rw [h3]
            exact hfin
          · rw [nI_leI (by omega) (by omega)] at g
            obtain ⟨hu2, e2⟩ := ht q (by omega)
            rw [nI_clamp (by omega), e2]
            refine ⟨vp_in_nI (by omega) (by omega), s3_isDigit hu2 (fun k => ?_) (fun k => ?_)⟩
            · rw [if_pos ⟨by omega, k⟩] at h3
              refine ⟨fun z => absurd z (by decide), fun _ => ?_⟩
              rw [show (1 : Int32) = nI 1 from rfl, nI_add]
              exact ih (q + 1) (by omega) (by omega) h3
            · rw [if_neg (fun z => k z.2)] at h3
              refine ⟨fun _ => ?_, fun z => absurd rfl z⟩
              rw [h3]
              exact hfin
      refine ⟨fun z => absurd z (by decide), fun _ => ⟨_, key (n - p) p (by omega) (by omega) rfl⟩⟩
    · rw [if_neg g2] at hk
      refine ⟨fun _ => ?_, fun z => absurd rfl z⟩
      rw [nI_clamp (by omega), e]
      refine ⟨vp_in_nI (by omega) (by omega), fun k => ?_, fun k => ?_⟩
      · rw [if_pos ((b8_c _ hu).2.2.1.mp k)] at hk
        rw [show (1 : Int32) = nI 1 from rfl, nI_add]
        exact hk
      · rw [if_neg (fun z => k ((b8_c _ hu).2.2.1.mpr z))] at hk
        exact hk
theorem s3_valueOf {u : Nat → Nat} {n p k : Nat} {t : Nat → Int32} {post : Int64 → Prop} (ht : z_tx u n t) (hpe : p + k ≤ n) (hd : ∀ i, i < k → z_dg (u (p + i)) = true) (hk : post (lN (z_va u p k))) : wX3_valueOf t 600 post (nI p) (nI (p + k)) := by
  obtain ⟨hn, ht⟩ := ht
  have key : ∀ (r j : Nat), j + r = k → wX3_valueOf_5 t 600 post (r + 1) (nI (p + k)) (lN (z_va u p j)) (nI (p + j)) := by
    intro r
    induction r with
    | zero =>
      intro j h
      have e : j = k := by omega
      subst e
      refine ⟨fun _ => hk, fun g => ?_⟩
      rw [nI_leI (by omega) (by omega)] at g
      omega
    | succ r ih =>
      intro j h
      refine ⟨fun g => ?_, fun _ => ?_⟩
      · rw [nI_leI (by omega) (by omega)] at g
        omega
      · obtain ⟨hu, e⟩ := ht (p + j) (by omega)
        have hz : 48 ≤ u (p + j) ∧ u (p + j) ≤ 57 := decide_eq_true_iff.mp (hd j (by omega))
        rw [nI_clamp (by omega), e, b8_lo _ (by omega), show (48 : Int32) = nI 48 from rfl, nI_sub hz.1, nI_l (by omega), show (10 : Int64) = lN 10 from rfl, lN_mul, lN_add, show (1 : Int32) = nI 1 from rfl, nI_add]
        exact ⟨vp_in_nI (by omega) (by omega), ih (j + 1) (by omega)⟩
  exact ⟨_, key k 0 (by omega)⟩
