/-! the text read: tokens, what each does; the class's reader -/
theorem b8_c : ∀ u, u < 256 → (z_b8 u = 32 ↔ u = 32) ∧ (z_b8 u = 10 ↔ u = 10) ∧ (z_b8 u = 59 ↔ u = 59) ∧ z_b8 u &&& 255 = nI u := by decide +kernel
theorem b8_let : ∀ u, u < 256 → ((z_b8 u < 97 ∨ 122 < z_b8 u) ↔ ¬ (97 ≤ u ∧ u ≤ 122)) := by decide +kernel
theorem b8_dig : ∀ u, u < 256 → ((z_b8 u < 48 ∨ 57 < z_b8 u) ↔ ¬ (48 ≤ u ∧ u ≤ 57)) := by decide +kernel
theorem b8_lo : ∀ u, u < 128 → z_b8 u = nI u := by decide +kernel
def z_lt (c : Nat) : Bool := decide (97 ≤ c ∧ c ≤ 122)
def z_dg (c : Nat) : Bool := decide (48 ≤ c ∧ c ≤ 57)
def z_bl (c : Nat) : Bool := decide (c = 32 ∨ c = 10)
/-- how far a row of such bytes goes -/
def z_ru (f : Nat → Bool) (n : Nat) : Nat → Nat → Nat
  | 0, p => p
  | r + 1, p => if p < n ∧ f p = true then z_ru f n r (p + 1) else p
theorem z_ru_s {f : Nat → Bool} {n r p : Nat} : z_ru f n (r + 1) p = (if p < n ∧ f p = true then z_ru f n r (p + 1) else p) := rfl
theorem z_ru_ok {f : Nat → Bool} {n : Nat} : ∀ {r p : Nat}, p ≤ z_ru f n r p ∧ (p ≤ n → z_ru f n r p ≤ n) ∧ (∀ i, p ≤ i → i < z_ru f n r p → f i = true) ∧ (n ≤ p + r → ¬ (z_ru f n r p < n ∧ f (z_ru f n r p) = true))
  | 0, p => ⟨Nat.le_refl _, fun h => h, fun i h1 h2 => absurd h2 (by show ¬ i < p; omega), fun h g => by have : p < n := g.1; omega⟩
  | r + 1, p => by
    unfold z_ru
    split
    · next g =>
      obtain ⟨a1, a2, a3, a4⟩ := z_ru_ok (f := f) (n := n) (r := r) (p := p + 1)
      refine ⟨by omega, fun _ => a2 (by omega), fun i h1 h2 => ?_, fun h => a4 (by omega)⟩
      by_cases e : i = p
      · rw [e]; exact g.2
      · exact a3 i (by omega) h2
    · next g => exact ⟨Nat.le_refl _, fun h => h, fun i h1 h2 => by omega, fun _ => g⟩
abbrev z_en (f : Nat → Bool) (n p : Nat) : Nat := z_ru f n (n - p) p
theorem z_en_gt {f : Nat → Bool} {n p : Nat} (hp : p < n) (hf : f p = true) : p < z_en f n p := by
  unfold z_en
  rw [show n - p = (n - p - 1) + 1 by omega]
  unfold z_ru
  rw [if_pos ⟨hp, hf⟩]
  have := (z_ru_ok (f := f) (n := n) (r := n - p - 1) (p := p + 1)).1
  omega
/-- a number of digits -/
def z_va (u : Nat → Nat) (p : Nat) : Nat → Nat
  | 0 => 0
  | k + 1 => 10 * z_va u p k + (u (p + k) - 48)
theorem z_va_lt {u : Nat → Nat} {p : Nat} : ∀ {k : Nat}, (∀ i, i < k → u (p + i) ≤ 57) → z_va u p k < 10 ^ k
  | 0, _ => by show (0 : Nat) < 1; omega
  | k + 1, h => by
    have a := z_va_lt (u := u) (p := p) (k := k) (fun i hi => h i (by omega))
    have b := h k (by omega)
    show 10 * z_va u p k + (u (p + k) - 48) < 10 ^ (k + 1)
    rw [Nat.pow_succ]
    omega
/-- which word: 1 room, 2 most, 3 item -/
def z_is (u : Nat → Nat) (p e a b c d : Nat) : Bool := decide (e = p + 4 ∧ u p = a ∧ u (p + 1) = b ∧ u (p + 2) = c ∧ u (p + 3) = d)
def z_wd (u : Nat → Nat) (p e : Nat) : Nat := if z_is u p e 114 111 111 109 = true then 1 else if z_is u p e 109 111 115 116 = true then 2 else if z_is u p e 105 116 101 109 = true then 3 else 0
/-- kind, end, value of the token at a place: 1 none, 2 a word, 3 a number, 4 the sign -/
def z_tk (u : Nat → Nat) (n p : Nat) : Nat × Nat × Nat :=
  if z_lt (u p) = true then (2, z_en (fun i => z_lt (u i)) n p, z_wd u p (z_en (fun i => z_lt (u i)) n p))
  else if z_dg (u p) = true then (if 10 < z_en (fun i => z_dg (u i)) n p - p then (1, z_en (fun i => z_dg (u i)) n p, 0) else (3, z_en (fun i => z_dg (u i)) n p, z_va u p (z_en (fun i => z_dg (u i)) n p - p)))
  else if u p = 59 then (4, p + 1, 0) else (1, p + 1, 0)
theorem z_tk_end {u : Nat → Nat} {n p : Nat} (hp : p < n) : p < (z_tk u n p).2.1 ∧ (z_tk u n p).2.1 ≤ n := by
  unfold z_tk
  split
  · next g => exact ⟨z_en_gt (f := fun i => z_lt (u i)) hp g, (z_ru_ok (f := fun i => z_lt (u i))).2.1 (by omega)⟩
  · split
    · next g =>
      have a := z_en_gt (f := fun i => z_dg (u i)) hp g
      have b := (z_ru_ok (f := fun i => z_dg (u i)) (n := n) (r := n - p) (p := p)).2.1 (by omega)
      split
      · exact ⟨a, b⟩
      · exact ⟨a, b⟩
    · split
      · exact ⟨by show p < p + 1; omega, hp⟩
      · exact ⟨by show p < p + 1; omega, hp⟩
/-- due, weight, fault, its place, the load told -/
abbrev ZR : Type := Nat × Nat × Nat × Nat × ZL
def z_note (k b : Nat) (s : ZR) : ZR := if s.2.2.1 = 0 then (s.1, s.2.1, k, b, s.2.2.2.2) else s
def z_nit (b v sum : Nat) (s : ZR) : ZR := if 1 ≤ v ∧ v ≤ 999999999 then (if 2147483647 < sum + v then z_note 4 b s else s) else z_note 2 b s
def z_lR (v : Nat) (s : ZR) : ZR := (s.1, s.2.1, s.2.2.1, s.2.2.2.1, s.2.2.2.2.1, s.2.2.2.2.2.1, s.2.2.2.2.2.2.1, v, s.2.2.2.2.2.2.2.2.1, s.2.2.2.2.2.2.2.2.2)
def z_lM (v : Nat) (s : ZR) : ZR := (s.1, s.2.1, s.2.2.1, s.2.2.2.1, s.2.2.2.2.1, s.2.2.2.2.2.1, s.2.2.2.2.2.2.1, s.2.2.2.2.2.2.2.1, v, s.2.2.2.2.2.2.2.2.2)
def z_put (v : Nat) (s : ZR) : ZR := (s.1, s.2.1, s.2.2.1, s.2.2.2.1, s.2.2.2.2.1 + 1, z_up s.2.2.2.2.2.1 s.2.2.2.2.1 s.2.1, z_up s.2.2.2.2.2.2.1 s.2.2.2.2.1 v, s.2.2.2.2.2.2.2)
def z_pt (v : Nat) (s : ZR) : ZR := if s.2.2.1 = 0 then z_put v s else s
def z_num (b v : Nat) (s : ZR) : Option ZR :=
  if s.1 = 1 then some (5, (if v ≤ 2000000000 then z_lR v s else z_note 2 b s).2)
  else if s.1 = 2 then some (5, (if 2 ≤ v ∧ v ≤ 1000 then z_lM v s else z_note 2 b s).2)
  else if s.1 = 3 then some (4, v, (z_nit b v (z_sm s.2.2.2.2.2.1 s.2.2.2.2.1) s).2.2)
  else if s.1 = 4 then some (5, (z_pt v (z_nit b v (z_sm s.2.2.2.2.2.2.1 s.2.2.2.2.1) s)).2)
  else none
def z_word (b w : Nat) (s : ZR) : Option ZR :=
  if s.1 = 0 then (if w = 1 then some (1, s.2) else if w = 2 then some (2, s.2) else if w = 3 then some (3, (if 60 ≤ s.2.2.2.2.1 then z_note 3 b s else s).2) else none) else none
def z_act (k b v : Nat) (s : ZR) : Option ZR := if k = 2 then z_word b v s else if k = 3 then z_num b v s else if k = 4 then (if s.1 = 5 then some (0, s.2) else none) else none
/-- all of it, from a place where no blank is -/
def z_rd (u : Nat → Nat) (n : Nat) : Nat → Nat → ZR → Nat × Nat × ZL
  | 0, p, s => (1, p, s.2.2.2.2)
  | r + 1, p, s => if p < n then (match z_act (z_tk u n p).1 p (z_tk u n p).2.2 s with
      | none => (1, p, s.2.2.2.2)
      | some s' => z_rd u n r (z_en (fun i => z_bl (u i)) n (z_tk u n p).2.1) s')
    else if s.1 = 0 then (s.2.2.1, s.2.2.2.1, s.2.2.2.2) else (1, n, s.2.2.2.2)
def z_inv (s : ZR) : Prop := l_lim s.2.2.2.2 ∧ s.2.2.2.2.2.2.2.2.2 = 0 ∧ s.1 ≤ 5 ∧ s.2.2.1 ≤ 4 ∧ s.2.2.2.1 ≤ 600 ∧ (s.2.2.1 = 0 → (s.1 = 3 ∨ s.1 = 4) → s.2.2.2.2.1 < 60) ∧ (s.2.2.1 = 0 → s.1 = 4 → 1 ≤ s.2.1 ∧ z_sm s.2.2.2.2.2.1 s.2.2.2.2.1 + s.2.1 ≤ 2147483647)
theorem z_note_2 (k b : Nat) (s : ZR) : (z_note k b s).1 = s.1 ∧ (z_note k b s).2.1 = s.2.1 ∧ (z_note k b s).2.2.2.2 = s.2.2.2.2 ∧ (k ≠ 0 → (z_note k b s).2.2.1 ≠ 0) ∧ (k ≤ 4 → s.2.2.1 ≤ 4 → (z_note k b s).2.2.1 ≤ 4) ∧ (b ≤ 600 → s.2.2.2.1 ≤ 600 → (z_note k b s).2.2.2.1 ≤ 600) := by
  unfold z_note
  split
  · exact ⟨rfl, rfl, rfl, fun h => h, fun h _ => h, fun h _ => h⟩
  · next g => exact ⟨rfl, rfl, rfl, fun _ => g, fun _ h => h, fun _ h => h⟩
theorem z_nit_2 (b v sum : Nat) (s : ZR) : (z_nit b v sum s).1 = s.1 ∧ (z_nit b v sum s).2.1 = s.2.1 ∧ (z_nit b v sum s).2.2.2.2 = s.2.2.2.2 ∧ ((z_nit b v sum s).2.2.1 = 0 → s.2.2.1 = 0 ∧ (1 ≤ v ∧ v ≤ 999999999) ∧ sum + v ≤ 2147483647) ∧ (s.2.2.1 ≤ 4 → (z_nit b v sum s).2.2.1 ≤ 4) ∧ (b ≤ 600 → s.2.2.2.1 ≤ 600 → (z_nit b v sum s).2.2.2.1 ≤ 600) := by
  obtain ⟨a1, a2, a3, a4, a5, a6⟩ := z_note_2 2 b s
  obtain ⟨b1, b2, b3, b4, b5, b6⟩ := z_note_2 4 b s
  unfold z_nit
  split
  · next g =>
    split
    · exact ⟨b1, b2, b3, fun h => absurd h (b4 (by omega)), fun h => b5 (by omega) h, b6⟩
    · next g2 => exact ⟨rfl, rfl, rfl, fun h => ⟨h, g, by omega⟩, fun h => h, fun _ h => h⟩
  · exact ⟨a1, a2, a3, fun h => absurd h (a4 (by omega)), fun h => a5 (by omega) h, a6⟩
theorem z_act_inv {k b v : Nat} {s s' : ZR} (hb : b ≤ 600) (hi : z_inv s) (h : z_act k b v s = some s') : z_inv s' := by
  obtain ⟨i1, i2, i3, i4, i5, i6, i7⟩ := hi
  unfold z_act at h
  split at h
  · unfold z_word at h
    split at h
    · next d =>
      split at h
      · cases h
        exact ⟨i1, i2, by show 1 ≤ 5; omega, i4, i5, fun _ g => by have g' : (1 : Nat) = 3 ∨ (1 : Nat) = 4 := g; omega, fun _ g => by have g' : (1 : Nat) = 4 := g; omega⟩
      · split at h
        · cases h
          exact ⟨i1, i2, by show 2 ≤ 5; omega, i4, i5, fun _ g => by have g' : (2 : Nat) = 3 ∨ (2 : Nat) = 4 := g; omega, fun _ g => by have g' : (2 : Nat) = 4 := g; omega⟩
        · split at h
          · cases h
            obtain ⟨a1, a2, a3, a4, a5, a6⟩ := z_note_2 3 b s
            split
            · next g60 => exact ⟨by rw [a3]; exact i1, by rw [a3]; exact i2, by show 3 ≤ 5; omega, a5 (by omega) i4, a6 hb i5, fun g => absurd g (a4 (by omega)), fun _ g => by have g' : (3 : Nat) = 4 := g; omega⟩
            · next g60 => exact ⟨i1, i2, by show 3 ≤ 5; omega, i4, i5, fun _ _ => by show s.2.2.2.2.1 < 60; omega, fun _ g => by have g' : (3 : Nat) = 4 := g; omega⟩
          · cases h
    · cases h
  · split at h
    · unfold z_num at h
      split at h
      · cases h
        split
        · next g =>
          obtain ⟨l1, l2, l3, l4, l5, l6, l7⟩ := i1
          exact ⟨⟨l1, l2, l3, l4, g, l6, l7⟩, i2, by show 5 ≤ 5; omega, i4, i5, fun _ g => by have g' : (5 : Nat) = 3 ∨ (5 : Nat) = 4 := g; omega, fun _ g => by have g' : (5 : Nat) = 4 := g; omega⟩
        · obtain ⟨a1, a2, a3, a4, a5, a6⟩ := z_note_2 2 b s
          exact ⟨by rw [a3]; exact i1, by rw [a3]; exact i2, by show 5 ≤ 5; omega, a5 (by omega) i4, a6 hb i5, fun g => absurd g (a4 (by omega)), fun _ g => by have g' : (5 : Nat) = 4 := g; omega⟩
      · split at h
        · cases h
          split
          · next g =>
            obtain ⟨l1, l2, l3, l4, l5, l6, l7⟩ := i1
            exact ⟨⟨l1, l2, l3, l4, l5, g.1, g.2⟩, i2, by show 5 ≤ 5; omega, i4, i5, fun _ g => by have g' : (5 : Nat) = 3 ∨ (5 : Nat) = 4 := g; omega, fun _ g => by have g' : (5 : Nat) = 4 := g; omega⟩
          · obtain ⟨a1, a2, a3, a4, a5, a6⟩ := z_note_2 2 b s
            exact ⟨by rw [a3]; exact i1, by rw [a3]; exact i2, by show 5 ≤ 5; omega, a5 (by omega) i4, a6 hb i5, fun g => absurd g (a4 (by omega)), fun _ g => by have g' : (5 : Nat) = 4 := g; omega⟩
        · split at h
          · next d3 =>
            cases h
            obtain ⟨a1, a2, a3, a4, a5, a6⟩ := z_nit_2 b v (z_sm s.2.2.2.2.2.1 s.2.2.2.2.1) s
            refine ⟨by rw [a3]; exact i1, by rw [a3]; exact i2, by show 4 ≤ 5; omega, a5 i4, a6 hb i5, fun g _ => ?_, fun g _ => ?_⟩
            · rw [a3]
              exact i6 (a4 g).1 (Or.inl d3)
            · rw [a3]
              exact ⟨(a4 g).2.1.1, (a4 g).2.2⟩
          · split at h
            · next d4 =>
              cases h
              obtain ⟨a1, a2, a3, a4, a5, a6⟩ := z_nit_2 b v (z_sm s.2.2.2.2.2.2.1 s.2.2.2.2.1) s
              unfold z_pt
              split
              · next gf =>
                obtain ⟨f0, ⟨v1, v2⟩, v3⟩ := a4 gf
                have n60 := i6 f0 (Or.inr d4)
                obtain ⟨w1, w2⟩ := i7 f0 d4
                obtain ⟨l1, l2, l3, l4, l5, l6, l7⟩ := i1
                unfold z_put
                refine ⟨?_, ?_, by show 5 ≤ 5; omega, a5 i4, a6 hb i5, fun _ g => by have g' : (5 : Nat) = 3 ∨ (5 : Nat) = 4 := g; omega, fun _ g => by have g' : (5 : Nat) = 4 := g; omega⟩
                · rw [a2, a3]
                  refine ⟨n60, fun i hi => ?_, ?_, ?_, l5, l6, l7⟩
                  · show 1 ≤ z_up s.2.2.2.2.2.1 s.2.2.2.2.1 s.2.1 i ∧ 1 ≤ z_up s.2.2.2.2.2.2.1 s.2.2.2.2.1 v i
                    by_cases e : i = s.2.2.2.2.1
                    · rw [e, z_up_s, z_up_s]
                      exact ⟨w1, v1⟩
                    · rw [z_up_n e, z_up_n e]
                      exact l2 i (by have hi' : i < s.2.2.2.2.1 + 1 := hi; omega)
                  · show z_sm (z_up s.2.2.2.2.2.1 s.2.2.2.2.1 s.2.1) (s.2.2.2.2.1 + 1) < 2 ^ 31
                    rw [z_sm_new]
                    omega
                  · show z_sm (z_up s.2.2.2.2.2.2.1 s.2.2.2.2.1 v) (s.2.2.2.2.1 + 1) < 2 ^ 31
                    rw [z_sm_new]
                    omega
                · rw [a3]
                  exact i2
              · next gf => exact ⟨by rw [a3]; exact i1, by rw [a3]; exact i2, by show 5 ≤ 5; omega, a5 i4, a6 hb i5, fun _ g => by have g' : (5 : Nat) = 3 ∨ (5 : Nat) = 4 := g; omega, fun _ g => by have g' : (5 : Nat) = 4 := g; omega⟩
            · cases h
    · split at h
      · split at h
        · cases h
          exact ⟨i1, i2, by show 0 ≤ 5; omega, i4, i5, fun _ g => by have g' : (0 : Nat) = 3 ∨ (0 : Nat) = 4 := g; omega, fun _ g => by have g' : (0 : Nat) = 4 := g; omega⟩
        · cases h
      · cases h
/-! the class's reader -/
def z_tx (u : Nat → Nat) (n : Nat) (t : Nat → Int32) : Prop := n ≤ 600 ∧ ∀ k, k < n → u k < 256 ∧ t k = z_b8 (u k)
theorem s3_isLetter {c : Nat} {post : Int32 → Prop} (hc : c < 256) (h1 : z_lt c = true → post 1) (h0 : ¬ z_lt c = true → post 0) : wX3_isLetter post (z_b8 c) := by
  have h := b8_let c hc
  have hz : z_lt c = true ↔ (97 ≤ c ∧ c ≤ 122) := decide_eq_true_iff
  unfold wX3_isLetter
  refine ⟨fun g => h0 ?_, fun g => ⟨fun g2 => h0 ?_, fun g2 => h1 ?_⟩⟩
  · rw [hz]; exact h.mp (Or.inl g)
  · rw [hz]; exact h.mp (Or.inr g2)
  · rw [hz]
    refine Classical.byContradiction (fun k => ?_)
    rcases h.mpr k with k1 | k1
    · exact g k1
    · exact g2 k1
theorem s3_isDigit {c : Nat} {post : Int32 → Prop} (hc : c < 256) (h1 : z_dg c = true → post 1) (h0 : ¬ z_dg c = true → post 0) : wX3_isDigit post (z_b8 c) := by
  have h := b8_dig c hc
  have hz : z_dg c = true ↔ (48 ≤ c ∧ c ≤ 57) := decide_eq_true_iff
  unfold wX3_isDigit
  refine ⟨fun g => h0 ?_, fun g => ⟨fun g2 => h0 ?_, fun g2 => h1 ?_⟩⟩
  · rw [hz]; exact h.mp (Or.inl g)
  · rw [hz]; exact h.mp (Or.inr g2)
  · rw [hz]
    refine Classical.byContradiction (fun k => ?_)
    rcases h.mpr k with k1 | k1
    · exact g k1
    · exact g2 k1
theorem s3_behindBlanks {u : Nat → Nat} {n p : Nat} {t : Nat → Int32} {post : Int32 → Prop} (ht : z_tx u n t) (hp : p ≤ n) (hk : post (nI (z_en (fun i => z_bl (u i)) n p))) : wX3_behindBlanks t 600 post (nI p) (nI n) := by
  obtain ⟨hn, ht⟩ := ht
  have key : ∀ (r p : Nat), p ≤ n → n ≤ p + r → post (nI (z_ru (fun i => z_bl (u i)) n r p)) → wX3_behindBlanks_2 t 600 post (r + 1) (nI n) (nI p) := by
    intro r
    induction r with
    | zero =>
      intro p h1 h2 h3
      refine ⟨fun _ => h3, fun g => ?_⟩
      rw [nI_leI (by omega) (by omega)] at g
      omega
    | succ r ih =>
      intro p h1 h2 h3
      rw [z_ru_s] at h3
      refine ⟨fun g => ?_, fun g => ?_⟩
      · rw [nI_leI (by omega) (by omega)] at g
        rw [if_neg (by omega)] at h3
        exact h3
      · rw [nI_leI (by omega) (by omega)] at g
        obtain ⟨hu, e⟩ := ht p (by omega)
        obtain ⟨c1, c2, c3, c4⟩ := b8_c (u p) hu
        have hz : z_bl (u p) = true ↔ (u p = 32 ∨ u p = 10) := decide_eq_true_iff
        have step : (u p = 32 ∨ u p = 10) → wX3_behindBlanks_2 t 600 post (r + 1) (nI n) (nI p + 1) := fun hb => by
          rw [if_pos ⟨by omega, hz.mpr hb⟩] at h3
          rw [show (1 : Int32) = nI 1 from rfl, nI_add]
          exact ih (p + 1) (by omega) (by omega) h3
        rw [nI_clamp (by omega), e]
        refine ⟨vp_in_nI (by omega) (by omega), fun g2 => step (Or.inl (c1.mp g2)), fun g2 => ⟨vp_in_nI (by omega) (by omega), fun g3 => step (Or.inr (c2.mp g3)), fun g3 => ?_⟩⟩
        rw [if_neg (fun q => by
          rcases hz.mp q.2 with k | k
          · exact g2 (c1.mpr k)
          · exact g3 (c2.mpr k))] at h3
        exact h3
  exact ⟨_, key (n - p) p hp (by omega) hk⟩
/-- where the class's token ends: at its begin, if it is none -/
def z_te (u : Nat → Nat) (n p : Nat) : Nat := if (z_tk u n p).1 = 1 then p else (z_tk u n p).2.1
theorem s3_endOfToken {u : Nat → Nat} {n p : Nat} {t : Nat → Int32} {post : Int32 → Prop} (ht : z_tx u n t) (hp : p < n) (hk : post (nI (z_te u n p))) : wX3_endOfToken t 600 post (nI p) (nI n) := by
  obtain ⟨hn, ht⟩ := ht
  obtain ⟨hu, e⟩ := ht p hp
  unfold z_te z_tk at hk
  unfold wX3_endOfToken
  rw [nI_clamp (by omega), e]
  refine ⟨vp_in_nI (by omega) (by omega), s3_isLetter hu (fun g => ?_) (fun g => ?_)⟩
  · rw [if_pos g] at hk
    have hk' : post (nI (z_en (fun i => z_lt (u i)) n p)) := hk
    have key : ∀ (r q : Nat), q ≤ n → n ≤ q + r → post (nI (z_ru (fun i => z_lt (u i)) n r q)) → wX3_endOfToken_11 t 600 post (r + 1) (nI n) (nI q) := by
      intro r
      induction r with
      | zero =>
        intro q h1 h2 h3
        refine ⟨fun _ => h3, fun g => ?_⟩
        rw [nI_leI (by omega) (by omega)] at g
        omega
      | succ r ih =>
        intro q h1 h2 h3
        rw [z_ru_s] at h3
        refine ⟨fun g => ?_, fun g => ?_⟩
        · rw [nI_leI (by omega) (by omega)] at g
          rw [if_neg (by omega)] at h3
          exact h3
        · rw [nI_leI (by omega) (by omega)] at g
          obtain ⟨hu2, e2⟩ := ht q (by omega)
          rw [nI_clamp (by omega), e2]
          refine ⟨vp_in_nI (by omega) (by omega), s3_isLetter hu2 (fun k => ?_) (fun k => ?_)⟩
          · rw [if_pos ⟨by omega, k⟩] at h3
            refine ⟨fun z => absurd z (by decide), fun _ => ?_⟩
            rw [show (1 : Int32) = nI 1 from rfl, nI_add]
            exact ih (q + 1) (by omega) (by omega) h3
          · rw [if_neg (fun z => k z.2)] at h3
            exact ⟨fun _ => h3, fun z => absurd rfl z⟩
    refine ⟨fun z => absurd z (by decide), fun _ => ⟨_, key (n - p) p (by omega) (by omega) hk'⟩⟩
  · rw [if_neg g] at hk
    refine ⟨fun _ => ?_, fun z => absurd rfl z⟩
    rw [nI_clamp (by omega), e]
    refine ⟨vp_in_nI (by omega) (by omega), s3_isDigit hu (fun g2 => ?_) (fun g2 => ?_)⟩
    · rw [if_pos g2] at hk
      have hfin : wX3_endOfToken_62 t 600 post (nI p) (nI (z_en (fun i => z_dg (u i)) n p)) := by
        have b1 := z_en_gt (f := fun i => z_dg (u i)) hp g2
        have b2 := (z_ru_ok (f := fun i => z_dg (u i)) (n := n) (r := n - p) (p := p)).2.1 (by omega)
        have b2' : z_en (fun i => z_dg (u i)) n p ≤ n := b2
        generalize z_en (fun i => z_dg (u i)) n p = q at b1 b2' hk
        unfold wX3_endOfToken_62
        rw [nI_sub (by omega), show (10 : Int32) = nI 10 from rfl, nI_leI (by omega) (by omega)]
        refine ⟨fun k => ?_, fun k => ?_⟩
        · rw [if_neg (show ¬ 10 < q - p by omega)] at hk
          exact hk
        · rw [if_pos (show 10 < q - p by omega)] at hk
          exact hk
      have key : ∀ (r q : Nat), q ≤ n → n ≤ q + r → z_ru (fun i => z_dg (u i)) n r q = z_en (fun i => z_dg (u i)) n p → wX3_endOfToken_42 t 600 post (r + 1) (nI p) (nI n) (nI q) := by
        intro r
        induction r with
        | zero =>
          intro q h1 h2 h3
          have h3' : q = z_en (fun i => z_dg (u i)) n p := h3
          refine ⟨fun _ => by rw [h3']; exact hfin, fun g => ?_⟩
          rw [nI_leI (by omega) (by omega)] at g
          omega
        | succ r ih =>
          intro q h1 h2 h3
          rw [z_ru_s] at h3
          refine ⟨fun g => ?_, fun g => ?_⟩
          · rw [nI_leI (by omega) (by omega)] at g
            rw [if_neg (by omega)] at h3
            rw [h3]
            exact hfin
          · rw [nI_leI (by omega) (by omega)] at g
            obtain ⟨hu2, e2⟩ := ht q (by omega)
            rw [nI_clamp (by omega), e2]
            refine ⟨vp_in_nI (by omega) (by omega), s3_isDigit hu2 (fun k => ?_) (fun k => ?_)⟩
            · rw [if_pos ⟨by omega, k⟩] at h3
              refine ⟨fun z => absurd z (by decide), fun _ => ?_⟩
              rw [show (1 : Int32) = nI 1 from rfl, nI_add]
              exact ih (q + 1) (by omega) (by omega) h3
            · rw [if_neg (fun z => k z.2)] at h3
              refine ⟨fun _ => ?_, fun z => absurd rfl z⟩
              rw [h3]
              exact hfin
      refine ⟨fun z => absurd z (by decide), fun _ => ⟨_, key (n - p) p (by omega) (by omega) rfl⟩⟩
    · rw [if_neg g2] at hk
      refine ⟨fun _ => ?_, fun z => absurd rfl z⟩
      rw [nI_clamp (by omega), e]
      refine ⟨vp_in_nI (by omega) (by omega), fun k => ?_, fun k => ?_⟩
      · rw [if_pos ((b8_c _ hu).2.2.1.mp k)] at hk
        rw [show (1 : Int32) = nI 1 from rfl, nI_add]
        exact hk
      · rw [if_neg (fun z => k ((b8_c _ hu).2.2.1.mpr z))] at hk
        exact hk
theorem s3_valueOf {u : Nat → Nat} {n p k : Nat} {t : Nat → Int32} {post : Int64 → Prop} (ht : z_tx u n t) (hpe : p + k ≤ n) (hd : ∀ i, i < k → z_dg (u (p + i)) = true) (hk : post (lN (z_va u p k))) : wX3_valueOf t 600 post (nI p) (nI (p + k)) := by
  obtain ⟨hn, ht⟩ := ht
  have key : ∀ (r j : Nat), j + r = k → wX3_valueOf_5 t 600 post (r + 1) (nI (p + k)) (lN (z_va u p j)) (nI (p + j)) := by
    intro r
    induction r with
    | zero =>
      intro j h
      have e : j = k := by omega
      subst e
      refine ⟨fun _ => hk, fun g => ?_⟩
      rw [nI_leI (by omega) (by omega)] at g
      omega
    | succ r ih =>
      intro j h
      refine ⟨fun g => ?_, fun _ => ?_⟩
      · rw [nI_leI (by omega) (by omega)] at g
        omega
      · obtain ⟨hu, e⟩ := ht (p + j) (by omega)
        have hz : 48 ≤ u (p + j) ∧ u (p + j) ≤ 57 := decide_eq_true_iff.mp (hd j (by omega))
        rw [nI_clamp (by omega), e, b8_lo _ (by omega), show (48 : Int32) = nI 48 from rfl, nI_sub hz.1, nI_l (by omega), show (10 : Int64) = lN 10 from rfl, lN_mul, lN_add, show (1 : Int32) = nI 1 from rfl, nI_add]
        exact ⟨vp_in_nI (by omega) (by omega), ih (j + 1) (by omega)⟩
  exact ⟨_, key k 0 (by omega)⟩

theorem b8_eq : ∀ c, c < 256 → (z_b8 c = nI 114 ↔ c = 114) ∧ (z_b8 c = nI 111 ↔ c = 111) ∧ (z_b8 c = nI 109 ↔ c = 109) ∧ (z_b8 c = nI 115 ↔ c = 115) ∧ (z_b8 c = nI 116 ↔ c = 116) ∧ (z_b8 c = nI 105 ↔ c = 105) ∧ (z_b8 c = nI 101 ↔ c = 101) := by decide +kernel
theorem s3_spells {u : Nat → Nat} {n p e si a b c d : Nat} {t : Nat → Int32} {post : Int32 → Prop} (ht : z_tx u n t) (hp : p ≤ e) (he : e ≤ n) (x0 : ∀ q, q < 256 → (z_b8 q = xch si 0 ↔ q = a)) (x1 : ∀ q, q < 256 → (z_b8 q = xch si 1 ↔ q = b)) (x2 : ∀ q, q < 256 → (z_b8 q = xch si 2 ↔ q = c)) (x3 : ∀ q, q < 256 → (z_b8 q = xch si 3 ↔ q = d)) (h1 : z_is u p e a b c d = true → post 1) (h0 : ¬ z_is u p e a b c d = true → post 0) : wX3_spells si t 600 post (nI p) (nI e) := by
  obtain ⟨hn, ht⟩ := ht
  have hz : z_is u p e a b c d = true ↔ (e = p + 4 ∧ u p = a ∧ u (p + 1) = b ∧ u (p + 2) = c ∧ u (p + 3) = d) := decide_eq_true_iff
  rw [hz] at h1 h0
  unfold wX3_spells
  rw [nI_sub hp, show (4 : Int32) = nI 4 from rfl, nI_eq (by omega) (by omega)]
  refine ⟨fun g => ⟨5, ?_⟩, fun g => h0 (fun z => g (by omega))⟩
  have e4 : e = p + 4 := by omega
  have one : ∀ (k : Nat) (x : Nat) (K : Int32 → Int32 → Prop), k < 4 → (∀ q, q < 256 → (z_b8 q = xch si k ↔ q = x)) → (u (p + k) = x → K (nI p) (nI (k + 1))) → (¬ u (p + k) = x → post 0) → wX3_spells_15_b si t 600 post K (nI p) (nI k) := by
    intro k x K hk hx y1 y0
    obtain ⟨hu, e1⟩ := ht (p + k) (by omega)
    unfold wX3_spells_15_b
    rw [show (4 : Int32) = nI 4 from rfl, nI_leI (by omega) (by omega), nI_add, nI_clamp (by omega), nI_clamp (by omega), e1, hx _ hu, show (1 : Int32) = nI 1 from rfl, nI_add]
    exact ⟨fun z => by omega, fun _ => ⟨vp_in_nI (by omega) (by omega), vp_in_nI (by omega) (by omega), y1, y0⟩⟩
  refine one 0 a _ (by omega) x0 (fun y0 => ?_) (fun y => h0 (fun z => y z.2.1))
  refine one 1 b _ (by omega) x1 (fun y1 => ?_) (fun y => h0 (fun z => y z.2.2.1))
  refine one 2 c _ (by omega) x2 (fun y2 => ?_) (fun y => h0 (fun z => y z.2.2.2.1))
  refine one 3 d _ (by omega) x3 (fun y3 => ?_) (fun y => h0 (fun z => y z.2.2.2.2))
  refine ⟨fun _ => h1 ⟨e4, y0, y1, y2, y3⟩, fun z => ?_⟩
  exact absurd (show (4 : Int32) ≤ nI (3 + 1) by decide) z
def z_fp (s : ZR) : Int32 := if s.2.2.1 = 0 then -1 else nI s.2.2.2.1
def x_R (s : ZR) (fault faultPlace due weight items room most steps : Int32) (profits weights : Nat → Int32) : Prop := fault = nI s.2.2.1 ∧ faultPlace = z_fp s ∧ due = nI s.1 ∧ weight = nI s.2.1 ∧ x_L s.2.2.2.2 items room most steps weights profits
theorem s3_note {s : ZR} {k b : Nat} {post : Int32 → Int32 → Prop} (hk0 : k ≠ 0) (hs : s.2.2.1 ≤ 4) (h : post (nI (z_note k b s).2.2.1) (z_fp (z_note k b s))) : wX3_note post (nI s.2.2.1) (z_fp s) (nI k) (nI b) := by
  unfold wX3_note
  rw [show (0 : Int32) = nI 0 from rfl, nI_eq (by omega) (by omega)]
  refine ⟨fun g => ?_, fun g => ?_⟩
  · have e : z_note k b s = (s.1, s.2.1, k, b, s.2.2.2.2) := by unfold z_note; rw [if_pos g]
    rw [e] at h
    have e2 : z_fp (s.1, s.2.1, k, b, s.2.2.2.2) = nI b := by unfold z_fp; rw [if_neg hk0]
    rw [e2] at h
    exact h
  · have e : z_note k b s = s := by unfold z_note; rw [if_neg g]
    rw [e] at h
    exact h
theorem s3_takesWord {u : Nat → Nat} {n p e : Nat} {s : ZR} {t : Nat → Int32} {items : Int32} {post : Int32 → Int32 → Int32 → Int32 → Prop} (ht : z_tx u n t) (hp : p ≤ e) (he : e ≤ n) (hi : z_inv s) (hd : s.1 = 0) (hit : items = nI s.2.2.2.2.1)
    (h1 : ∀ s', z_word p (z_wd u p e) s = some s' → post 1 (nI s'.2.2.1) (z_fp s') (nI s'.1)) (h0 : z_word p (z_wd u p e) s = none → post 0 (nI s.2.2.1) (z_fp s) (nI s.1)) :
    wX3_takesWord items t 600 post (nI s.2.2.1) (z_fp s) (nI s.1) (nI p) (nI e) := by
  have hn := ht.1
  have l60 := hi.1.1
  unfold z_word at h1 h0
  rw [if_pos hd] at h1 h0
  unfold z_wd at h1 h0
  unfold wX3_takesWord
  refine s3_spells (a := 114) (b := 111) (c := 111) (d := 109) ht hp he (fun q hq => by rw [show xch 0 0 = nI 114 by decide +kernel]; exact (b8_eq q hq).1) (fun q hq => by rw [show xch 0 1 = nI 111 by decide +kernel]; exact (b8_eq q hq).2.1) (fun q hq => by rw [show xch 0 2 = nI 111 by decide +kernel]; exact (b8_eq q hq).2.1) (fun q hq => by rw [show xch 0 3 = nI 109 by decide +kernel]; exact (b8_eq q hq).2.2.1) (fun g => ?_) (fun g => ?_)
  · rw [if_pos g] at h1
    exact ⟨fun z => absurd z (by decide), fun _ => h1 _ rfl⟩
  · rw [if_neg g] at h1 h0
    refine ⟨fun _ => ?_, fun z => absurd rfl z⟩
    refine s3_spells (a := 109) (b := 111) (c := 115) (d := 116) ht hp he (fun q hq => by rw [show xch 1 0 = nI 109 by decide +kernel]; exact (b8_eq q hq).2.2.1) (fun q hq => by rw [show xch 1 1 = nI 111 by decide +kernel]; exact (b8_eq q hq).2.1) (fun q hq => by rw [show xch 1 2 = nI 115 by decide +kernel]; exact (b8_eq q hq).2.2.2.1) (fun q hq => by rw [show xch 1 3 = nI 116 by decide +kernel]; exact (b8_eq q hq).2.2.2.2.1) (fun g2 => ?_) (fun g2 => ?_)
    · rw [if_pos g2] at h1
      exact ⟨fun z => absurd z (by decide), fun _ => h1 _ rfl⟩
    · rw [if_neg g2] at h1 h0
      refine ⟨fun _ => ?_, fun z => absurd rfl z⟩
      refine s3_spells (a := 105) (b := 116) (c := 101) (d := 109) ht hp he (fun q hq => by rw [show xch 2 0 = nI 105 by decide +kernel]; exact (b8_eq q hq).2.2.2.2.2.1) (fun q hq => by rw [show xch 2 1 = nI 116 by decide +kernel]; exact (b8_eq q hq).2.2.2.2.1) (fun q hq => by rw [show xch 2 2 = nI 101 by decide +kernel]; exact (b8_eq q hq).2.2.2.2.2.2) (fun q hq => by rw [show xch 2 3 = nI 109 by decide +kernel]; exact (b8_eq q hq).2.2.1) (fun g3 => ?_) (fun g3 => ?_)
      · rw [if_pos g3] at h1
        refine ⟨fun z => absurd z (by decide), fun _ => ?_⟩
        rw [hit, show (60 : Int32) = nI 60 from rfl, nI_ltI (by omega) (by omega)]
        have h1' := h1 _ rfl
        refine ⟨fun k => ?_, fun k => ?_⟩
        · rw [if_neg (show ¬ 60 ≤ s.2.2.2.2.1 by omega)] at h1'
          exact h1'
        · rw [if_pos (show 60 ≤ s.2.2.2.2.1 by omega)] at h1'
          exact s3_note (k := 3) (by omega) hi.2.2.2.1 h1'
      · rw [if_neg g3] at h0
        exact ⟨fun _ => h0 rfl, fun z => absurd rfl z⟩
theorem l_cb {v a b : Nat} {post : Int32 → Prop} (hv : v < 2 ^ 62) (ha : a < 2 ^ 62) (hb : b < 2 ^ 62) (h1 : a ≤ v ∧ v ≤ b → post 1) (h0 : ¬ (a ≤ v ∧ v ≤ b) → post 0) : (lN v < lN a → post 0) ∧ (¬ lN v < lN a → (lN b < lN v → post 0) ∧ (¬ lN b < lN v → post 1)) := by
  rw [pk_lLT (by omega) (by omega), pk_lLT (by omega) (by omega)]
  exact ⟨fun g => h0 (by omega), fun g => ⟨fun g2 => h0 (by omega), fun g2 => h1 (by omega)⟩⟩
theorem s3_nit {s : ZR} {b v sum : Nat} {post : Int32 → Int32 → Prop} (hi : z_inv s) (hv : v < 2 ^ 61) (hsum : sum < 2 ^ 31) (h : post (nI (z_nit b v sum s).2.2.1) (z_fp (z_nit b v sum s))) : wX3_noteItemsNumber post (nI s.2.2.1) (z_fp s) (lN v) (lN sum) (nI b) := by
  unfold z_nit at h
  unfold wX3_noteItemsNumber
  refine l_cb (a := 1) (b := 999999999) (by omega) (by omega) (by omega) (fun g => ?_) (fun g => ?_)
  · rw [if_pos g] at h
    refine ⟨fun z => absurd z (by decide), fun _ => ?_⟩
    rw [lN_add, show (2147483647 : Int64) = lN 2147483647 from rfl, pk_lLE (by omega) (by omega)]
    refine ⟨fun k => ?_, fun k => ?_⟩
    · rw [if_neg (by omega)] at h
      exact h
    · rw [if_pos (by omega)] at h
      exact s3_note (k := 4) (by omega) hi.2.2.2.1 h
  · rw [if_neg g] at h
    refine ⟨fun _ => ?_, fun z => absurd rfl z⟩
    exact s3_note (k := 2) (by omega) hi.2.2.2.1 h
theorem s3_takesNumber {s : ZR} {p v : Nat} {fault faultPlace due weight items room most steps : Int32} {profits weights : Nat → Int32} {post : Int32 → Int32 → Int32 → Int32 → Int32 → Int32 → Int32 → Int32 → (Nat → Int32) → (Nat → Int32) → Prop} (hi : z_inv s) (hv : v < 2 ^ 61) (hx : x_R s fault faultPlace due weight items room most steps profits weights)
    (h1 : ∀ s', z_num p v s = some s' → ∀ fault' faultPlace' due' weight' items' room' most' profits' weights', x_R s' fault' faultPlace' due' weight' items' room' most' steps profits' weights' → post 1 fault' faultPlace' due' weight' items' room' most' profits' weights') (h0 : z_num p v s = none → post 0 fault faultPlace due weight items room most profits weights) :
    wX3_takesNumber post fault faultPlace due weight items room most profits weights (lN v) (nI p) := by
  obtain ⟨rfl, rfl, rfl, rfl, hL⟩ := hx
  obtain ⟨rfl, rfl, rfl, rfl, hA⟩ := hL
  have i3 := hi.2.2.1
  obtain ⟨l1, l2, l3, l4, l5, l6, l7⟩ := hi.1
  unfold z_num at h1 h0
  unfold wX3_takesNumber
  rw [show (1 : Int32) = nI 1 from rfl, show (2 : Int32) = nI 2 from rfl, show (3 : Int32) = nI 3 from rfl, show (4 : Int32) = nI 4 from rfl, nI_eq (by omega) (by omega), nI_eq (by omega) (by omega), nI_eq (by omega) (by omega), nI_eq (by omega) (by omega)]
  refine ⟨fun d1 => ?_, fun d1 => ⟨fun d2 => ?_, fun d2 => ⟨fun d3 => ?_, fun d3 => ⟨fun d4 => ?_, fun d4 => ?_⟩⟩⟩⟩
  · rw [if_pos d1] at h1
    have h1' := h1 _ rfl
    unfold wX3_takeRoom
    refine l_cb (a := 0) (b := 2000000000) (by omega) (by omega) (by omega) (fun g => ?_) (fun g => ?_)
    · rw [if_pos g.2] at h1'
      refine ⟨fun z => absurd z (by decide), fun _ => ?_⟩
      rw [lN_i]
      exact h1' _ _ _ _ _ _ _ _ _ ⟨rfl, rfl, rfl, rfl, rfl, rfl, rfl, rfl, hA⟩
    · rw [if_neg (by omega)] at h1'
      refine ⟨fun _ => s3_note (k := 2) (by omega) hi.2.2.2.1 ?_, fun z => absurd rfl z⟩
      obtain ⟨a1, a2, a3, a4, a5, a6⟩ := z_note_2 2 p s
      refine h1' _ _ _ _ _ _ _ _ _ ⟨rfl, rfl, rfl, ?_, ?_⟩
      · show nI s.2.1 = nI (z_note 2 p s).2.1
        rw [a2]
      · show x_L (z_note 2 p s).2.2.2.2 _ _ _ _ _ _
        rw [a3]
        exact ⟨rfl, rfl, rfl, rfl, hA⟩
  · rw [if_neg d1, if_pos d2] at h1
    have h1' := h1 _ rfl
    unfold wX3_takeMost
    refine l_cb (a := 2) (b := 1000) (by omega) (by omega) (by omega) (fun g => ?_) (fun g => ?_)
    · rw [if_pos g] at h1'
      refine ⟨fun z => absurd z (by decide), fun _ => ?_⟩
      rw [lN_i]
      exact h1' _ _ _ _ _ _ _ _ _ ⟨rfl, rfl, rfl, rfl, rfl, rfl, rfl, rfl, hA⟩
    · rw [if_neg g] at h1'
      refine ⟨fun _ => s3_note (k := 2) (by omega) hi.2.2.2.1 ?_, fun z => absurd rfl z⟩
      obtain ⟨a1, a2, a3, a4, a5, a6⟩ := z_note_2 2 p s
      refine h1' _ _ _ _ _ _ _ _ _ ⟨rfl, rfl, rfl, ?_, ?_⟩
      · show nI s.2.1 = nI (z_note 2 p s).2.1
        rw [a2]
      · show x_L (z_note 2 p s).2.2.2.2 _ _ _ _ _ _
        rw [a3]
        exact ⟨rfl, rfl, rfl, rfl, hA⟩
  · rw [if_neg d1, if_neg d2, if_pos d3] at h1
    have h1' := h1 _ rfl
    unfold wX1_allWeights
    refine s1_sumOf l1 (fun k hk => (hA k hk).1) l3 ?_
    unfold wX3_takesNumber_71
    refine s3_nit hi hv l3 ?_
    unfold wX3_takesNumber_75
    rw [lN_i]
    obtain ⟨a1, a2, a3, a4, a5, a6⟩ := z_nit_2 p v (z_sm s.2.2.2.2.2.1 s.2.2.2.2.1) s
    refine h1' _ _ _ _ _ _ _ _ _ ⟨rfl, rfl, rfl, rfl, ?_⟩
    show x_L (z_nit p v (z_sm s.2.2.2.2.2.1 s.2.2.2.2.1) s).2.2.2.2 _ _ _ _ _ _
    rw [a3]
    exact ⟨rfl, rfl, rfl, rfl, hA⟩
  · rw [if_neg d1, if_neg d2, if_neg d3, if_pos d4] at h1
    have h1' := h1 _ rfl
    unfold wX1_allProfits
    refine s1_sumOf l1 (fun k hk => (hA k hk).2) l4 ?_
    unfold wX3_takesNumber_97
    refine s3_nit hi hv l4 ?_
    unfold wX3_takesNumber_101
    rw [lN_i]
    obtain ⟨a1, a2, a3, a4, a5, a6⟩ := z_nit_2 p v (z_sm s.2.2.2.2.2.2.1 s.2.2.2.2.1) s
    generalize z_nit p v (z_sm s.2.2.2.2.2.2.1 s.2.2.2.2.1) s = s1 at h1' a1 a2 a3 a4 a5 a6
    have hs1 := a5 hi.2.2.2.1
    unfold z_pt at h1'
    unfold wX3_takeItem
    rw [show (0 : Int32) = nI 0 from rfl, nI_eq (by omega) (by omega)]
    refine ⟨fun gf => ?_, fun gf => ?_⟩
    · rw [if_pos gf] at h1'
      have n60 := hi.2.2.2.2.2.1 (a4 gf).1 (Or.inr d4)
      unfold wX1_put
      rw [show (60 : Int32) = nI 60 from rfl, nI_leI (by omega) (by omega), nI_clamp (by omega), nI_1]
      refine ⟨fun z => by omega, fun _ => ⟨vp_in_nI n60 (by omega), vp_in_nI n60 (by omega), ?_⟩⟩
      unfold wX3_takesNumber_107
      refine h1' _ _ _ _ _ _ _ _ _ ⟨rfl, rfl, rfl, ?_, ?_⟩
      · show nI s.2.1 = nI s1.2.1
        rw [a2]
      · show x_L (s1.2.2.2.2.1 + 1, z_up s1.2.2.2.2.2.1 s1.2.2.2.2.1 s1.2.1, z_up s1.2.2.2.2.2.2.1 s1.2.2.2.2.1 v, s1.2.2.2.2.2.2.2) _ _ _ _ _ _
        rw [a2, a3]
        refine ⟨rfl, rfl, rfl, rfl, fun k hk => ?_⟩
        have hk' : k < s.2.2.2.2.1 + 1 := hk
        show upd weights s.2.2.2.2.1 (nI s.2.1) k = nI (z_up s.2.2.2.2.2.1 s.2.2.2.2.1 s.2.1 k) ∧ upd profits s.2.2.2.2.1 (nI v) k = nI (z_up s.2.2.2.2.2.2.1 s.2.2.2.2.1 v k)
        by_cases e : k = s.2.2.2.2.1
        · rw [e, pk_us, pk_us, z_up_s, z_up_s]
          exact ⟨rfl, rfl⟩
        · rw [pk_un e, pk_un e, z_up_n e, z_up_n e]
          exact hA k (by omega)
    · rw [if_neg gf] at h1'
      unfold wX3_takesNumber_107
      refine h1' _ _ _ _ _ _ _ _ _ ⟨rfl, rfl, rfl, ?_, ?_⟩
      · show nI s.2.1 = nI s1.2.1
        rw [a2]
      · show x_L s1.2.2.2.2 _ _ _ _ _ _
        rw [a3]
        exact ⟨rfl, rfl, rfl, rfl, hA⟩
  · rw [if_neg d1, if_neg d2, if_neg d3, if_neg d4] at h0
    exact h0 rfl

theorem z_tk_word {u : Nat → Nat} {n p : Nat} (g : z_lt (u p) = true) : z_tk u n p = (2, z_en (fun i => z_lt (u i)) n p, z_wd u p (z_en (fun i => z_lt (u i)) n p)) := by
  unfold z_tk
  rw [if_pos g]
theorem z_tk_num {u : Nat → Nat} {n p : Nat} (g : ¬ z_lt (u p) = true) (g2 : z_dg (u p) = true) (g3 : ¬ 10 < z_en (fun i => z_dg (u i)) n p - p) : z_tk u n p = (3, z_en (fun i => z_dg (u i)) n p, z_va u p (z_en (fun i => z_dg (u i)) n p - p)) := by
  unfold z_tk
  rw [if_neg g, if_pos g2, if_neg g3]
theorem z_tk_long {u : Nat → Nat} {n p : Nat} (g : ¬ z_lt (u p) = true) (g2 : z_dg (u p) = true) (g3 : 10 < z_en (fun i => z_dg (u i)) n p - p) : z_tk u n p = (1, z_en (fun i => z_dg (u i)) n p, 0) := by
  unfold z_tk
  rw [if_neg g, if_pos g2, if_pos g3]
theorem z_tk_sign {u : Nat → Nat} {n p : Nat} (g : ¬ z_lt (u p) = true) (g2 : ¬ z_dg (u p) = true) (g3 : u p = 59) : z_tk u n p = (4, p + 1, 0) := by
  unfold z_tk
  rw [if_neg g, if_neg g2, if_pos g3]
theorem z_tk_bad {u : Nat → Nat} {n p : Nat} (g : ¬ z_lt (u p) = true) (g2 : ¬ z_dg (u p) = true) (g3 : ¬ u p = 59) : z_tk u n p = (1, p + 1, 0) := by
  unfold z_tk
  rw [if_neg g, if_neg g2, if_neg g3]
theorem z_en_val {u : Nat → Nat} {n p : Nat} (hp : p < n) (g2 : z_dg (u p) = true) : p < z_en (fun i => z_dg (u i)) n p ∧ z_en (fun i => z_dg (u i)) n p ≤ n ∧ (∀ i, i < z_en (fun i => z_dg (u i)) n p - p → z_dg (u (p + i)) = true) := by
  have a := z_en_gt (f := fun i => z_dg (u i)) hp g2
  obtain ⟨b1, b2, b3, b4⟩ := z_ru_ok (f := fun i => z_dg (u i)) (n := n) (r := n - p) (p := p)
  exact ⟨a, b2 (by omega), fun i hi => b3 (p + i) (by omega) (by show p + i < z_en (fun i => z_dg (u i)) n p; omega)⟩
theorem z_va_61 {u : Nat → Nat} {p k : Nat} (hk : k ≤ 10) (hd : ∀ i, i < k → z_dg (u (p + i)) = true) : z_va u p k < 2 ^ 61 := by
  have a := z_va_lt (u := u) (p := p) (k := k) (fun i hi => (decide_eq_true_iff.mp (hd i hi)).2)
  have b : 10 ^ k ≤ 10 ^ 10 := Nat.pow_le_pow_right (by omega) hk
  have c : 10 ^ 10 < 2 ^ 61 := by decide
  omega
theorem s3_takesToken {u : Nat → Nat} {n p : Nat} {s : ZR} {t : Nat → Int32} {fault faultPlace due weight items room most steps : Int32} {profits weights : Nat → Int32} {post : Int32 → Int32 → Int32 → Int32 → Int32 → Int32 → Int32 → Int32 → (Nat → Int32) → (Nat → Int32) → Prop} (ht : z_tx u n t) (hp : p < n) (hi : z_inv s) (hx : x_R s fault faultPlace due weight items room most steps profits weights) (hk1 : ¬ (z_tk u n p).1 = 1)
    (h1 : ∀ s', z_act (z_tk u n p).1 p (z_tk u n p).2.2 s = some s' → ∀ fault' faultPlace' due' weight' items' room' most' profits' weights', x_R s' fault' faultPlace' due' weight' items' room' most' steps profits' weights' → post 1 fault' faultPlace' due' weight' items' room' most' profits' weights') (h0 : z_act (z_tk u n p).1 p (z_tk u n p).2.2 s = none → post 0 fault faultPlace due weight items room most profits weights) :
    wX3_takesToken t 600 post fault faultPlace due weight items room most profits weights (nI p) (nI (z_tk u n p).2.1) := by
  have hn := ht.1
  have i3 := hi.2.2.1
  obtain ⟨hu, e⟩ := ht.2 p hp
  unfold wX3_takesToken
  rw [nI_clamp (by omega), e]
  refine ⟨vp_in_nI (by omega) (by omega), s3_isLetter hu (fun g => ?_) (fun g => ?_)⟩
  · rw [z_tk_word g] at h1 h0 ⊢
    have h1' : ∀ s', z_word p (z_wd u p (z_en (fun i => z_lt (u i)) n p)) s = some s' → ∀ fault' faultPlace' due' weight' items' room' most' profits' weights', x_R s' fault' faultPlace' due' weight' items' room' most' steps profits' weights' → post 1 fault' faultPlace' due' weight' items' room' most' profits' weights' := h1
    have h0' : z_word p (z_wd u p (z_en (fun i => z_lt (u i)) n p)) s = none → post 0 fault faultPlace due weight items room most profits weights := h0
    refine ⟨fun z => absurd z (by decide), fun _ => ?_⟩
    obtain ⟨rfl, rfl, rfl, rfl, hL⟩ := hx
    rw [show (0 : Int32) = nI 0 from rfl, nI_eq (by omega) (by omega)]
    refine ⟨fun d => ?_, fun d => ?_⟩
    · have b2 := (z_ru_ok (f := fun i => z_lt (u i)) (n := n) (r := n - p) (p := p))
      refine s3_takesWord ht b2.1 (b2.2.1 (by omega)) hi d hL.1 (fun s' hs => ?_) (fun hs => ?_)
      · refine ⟨fun z => absurd z (by decide), fun _ => h1' s' hs _ _ _ _ _ _ _ _ _ ?_⟩
        have hsame : s'.2.1 = s.2.1 ∧ s'.2.2.2.2 = s.2.2.2.2 := by
          obtain ⟨a1, a2, a3, a4, a5, a6⟩ := z_note_2 3 p s
          unfold z_word at hs
          rw [if_pos d] at hs
          split at hs
          · cases hs; exact ⟨rfl, rfl⟩
          · split at hs
            · cases hs; exact ⟨rfl, rfl⟩
            · split at hs
              · cases hs
                split
                · exact ⟨a2, a3⟩
                · exact ⟨rfl, rfl⟩
              · cases hs
        refine ⟨rfl, rfl, rfl, by rw [hsame.1], ?_⟩
        rw [hsame.2]
        exact hL
      · exact ⟨fun _ => h0' hs, fun z => absurd rfl z⟩
    · refine h0' ?_
      unfold z_word
      rw [if_neg d]
  · refine ⟨fun _ => ?_, fun z => absurd rfl z⟩
    rw [nI_clamp (by omega), e]
    refine ⟨vp_in_nI (by omega) (by omega), s3_isDigit hu (fun g2 => ?_) (fun g2 => ?_)⟩
    · by_cases g3 : 10 < z_en (fun i => z_dg (u i)) n p - p
      · rw [z_tk_long g g2 g3] at hk1
        exact absurd rfl hk1
      · rw [z_tk_num g g2 g3] at h1 h0 ⊢
        have h1' : ∀ s', z_num p (z_va u p (z_en (fun i => z_dg (u i)) n p - p)) s = some s' → ∀ fault' faultPlace' due' weight' items' room' most' profits' weights', x_R s' fault' faultPlace' due' weight' items' room' most' steps profits' weights' → post 1 fault' faultPlace' due' weight' items' room' most' profits' weights' := h1
        have h0' : z_num p (z_va u p (z_en (fun i => z_dg (u i)) n p - p)) s = none → post 0 fault faultPlace due weight items room most profits weights := h0
        obtain ⟨b1, b2, b3⟩ := z_en_val hp g2
        have hval := z_va_61 (p := p) (k := z_en (fun i => z_dg (u i)) n p - p) (by omega) b3
        refine ⟨fun z => absurd z (by decide), fun _ => ?_⟩
        have hvo := s3_valueOf (p := p) (k := z_en (fun i => z_dg (u i)) n p - p) (post := fun r45 => wX3_takesToken_48 t 600 post fault faultPlace due weight items room most profits weights (nI p) r45) ht (by omega) b3 ?_
        · rw [show p + (z_en (fun i => z_dg (u i)) n p - p) = z_en (fun i => z_dg (u i)) n p by omega] at hvo
          exact hvo
        · unfold wX3_takesToken_48
          exact s3_takesNumber hi hval hx (fun s' hs f1 f2 f3 f4 f5 f6 f7 f8 f9 hx' => ⟨rfl, h1' s' hs _ _ _ _ _ _ _ _ _ hx'⟩) (fun hs => ⟨rfl, h0' hs⟩)
    · refine ⟨fun _ => ?_, fun z => absurd rfl z⟩
      by_cases g3 : u p = 59
      · rw [z_tk_sign g g2 g3] at h1 h0
        obtain ⟨rfl, rfl, rfl, rfl, hL⟩ := hx
        have h1' : ∀ s', (if s.1 = 5 then some ((0, s.2) : ZR) else none) = some s' → ∀ fault' faultPlace' due' weight' items' room' most' profits' weights', x_R s' fault' faultPlace' due' weight' items' room' most' steps profits' weights' → post 1 fault' faultPlace' due' weight' items' room' most' profits' weights' := h1
        have h0' : (if s.1 = 5 then some ((0, s.2) : ZR) else none) = none → post 0 (nI s.2.2.1) (z_fp s) (nI s.1) (nI s.2.1) items room most profits weights := h0
        rw [show (5 : Int32) = nI 5 from rfl, nI_eq (by omega) (by omega)]
        refine ⟨fun d => ?_, fun d => ?_⟩
        · exact h1' _ (if_pos d) _ _ _ _ _ _ _ _ _ ⟨rfl, rfl, rfl, rfl, hL⟩
        · exact h0' (if_neg d)
      · rw [z_tk_bad g g2 g3] at hk1
        exact absurd rfl hk1
theorem z_rd_s {u : Nat → Nat} {n r p : Nat} {s : ZR} (hp : p < n) : z_rd u n (r + 1) p s = (match z_act (z_tk u n p).1 p (z_tk u n p).2.2 s with
      | none => (1, p, s.2.2.2.2)
      | some s' => z_rd u n r (z_en (fun i => z_bl (u i)) n (z_tk u n p).2.1) s') := by
  show (if p < n then _ else _) = _
  rw [if_pos hp]
theorem z_act_1 {b v : Nat} {s : ZR} : z_act 1 b v s = none := rfl
/-- what a text comes to -/
def z_read (u : Nat → Nat) (n : Nat) : Nat × Nat × ZL := z_rd u n (n + 1) (z_en (fun i => z_bl (u i)) n 0) (0, 0, 0, 0, 0, fun _ => 0, fun _ => 0, 100, 400, 0)
theorem z_inv_0 : z_inv (0, 0, 0, 0, 0, fun _ => 0, fun _ => 0, 100, 400, 0) := by
  refine ⟨⟨by show 0 ≤ 60; omega, fun i hi => absurd hi (Nat.not_lt_zero _), by show (0 : Nat) < 2 ^ 31; omega, by show (0 : Nat) < 2 ^ 31; omega, by show 100 ≤ 2000000000; omega, by show 2 ≤ 400; omega, by show 400 ≤ 1000; omega⟩, rfl, by show 0 ≤ 5; omega, by show 0 ≤ 4; omega, by show 0 ≤ 600; omega, fun _ g => ?_, fun _ g => ?_⟩
  · have g' : (0 : Nat) = 3 ∨ (0 : Nat) = 4 := g
    omega
  · have g' : (0 : Nat) = 4 := g
    omega
theorem s3_readAll {u : Nat → Nat} {n : Nat} {t : Nat → Int32} {post : Int32 → Int32 → Int32 → Int32 → Int32 → Int32 → Int32 → Int32 → (Nat → Int32) → (Nat → Int32) → Prop} {t_fault t_faultPlace t_due t_weight t_told_items t_told_room t_told_most t_told_steps : Int32} {t_told_profits t_told_weights : Nat → Int32} (ht : z_tx u n t)
    (hk : ∀ (t_fault' t_faultPlace' t_due' t_weight' t_told_items' t_told_room' t_told_most' t_told_steps' : Int32) (t_told_profits' t_told_weights' : Nat → Int32), t_fault' = nI (z_read u n).1 → (¬ (z_read u n).1 = 0 → t_faultPlace' = nI (z_read u n).2.1) → ((z_read u n).1 = 0 → t_faultPlace' = -1 ∧ l_lim (z_read u n).2.2 ∧ (z_read u n).2.2.2.2.2.2.2 = 0 ∧ x_L (z_read u n).2.2 t_told_items' t_told_room' t_told_most' t_told_steps' t_told_weights' t_told_profits') → (z_read u n).1 ≤ 4 → post t_fault' t_faultPlace' t_due' t_weight' t_told_items' t_told_room' t_told_most' t_told_steps' t_told_profits' t_told_weights') : wX3_readAll t 600 post t_fault t_faultPlace t_due t_weight t_told_items t_told_room t_told_most t_told_steps t_told_profits t_told_weights (nI n) := by
  have hn := ht.1
  have key : ∀ (r p c : Nat) (s : ZR) (fault faultPlace due weight items room most steps : Int32) (profits weights : Nat → Int32), p ≤ n → c ≤ p → n < p + r → z_rd u n r p s = z_read u n → z_inv s → x_R s fault faultPlace due weight items room most steps profits weights → wX3_readAll_37 t 600 post r fault faultPlace due weight items room most steps profits weights (nI n) (nI p) (nI c) := by
    intro r
    induction r with
    | zero => intro p c s _ _ _ _ _ _ _ _ _ _ h1 h0 h2; omega
    | succ r ih =>
      intro p c s fault faultPlace due weight items room most steps profits weights h1 h0 h2 h3 hi hx
      have i3 := hi.2.2.1
      have i4 := hi.2.2.2.1
      have fin : n ≤ p → wX3_readAll_98 t 600 post fault faultPlace due weight items room most steps profits weights (nI n) := fun g => by
        have h3' : (if s.1 = 0 then (s.2.2.1, s.2.2.2.1, s.2.2.2.2) else (1, n, s.2.2.2.2)) = z_read u n := by
          rw [← h3]
          show _ = (if p < n then _ else _)
          rw [if_neg (show ¬ p < n by omega)]
        obtain ⟨rfl, rfl, rfl, rfl, hL⟩ := hx
        unfold wX3_readAll_98
        rw [show (0 : Int32) = nI 0 from rfl, nI_eq (by omega) (by omega)]
        refine ⟨fun d => ?_, fun d => ?_⟩
        · rw [if_pos d] at h3'
          rw [← h3'] at hk
          refine hk _ _ _ _ _ _ _ _ _ _ rfl (fun f => ?_) (fun f => ⟨?_, hi.1, hi.2.1, hL⟩) i4
          · unfold z_fp
            rw [if_neg f]
          · unfold z_fp
            rw [if_pos f]
        · rw [if_neg d] at h3'
          rw [← h3'] at hk
          exact hk _ _ _ _ _ _ _ _ _ _ rfl (fun _ => rfl) (fun f => by have f' : (1 : Nat) = 0 := f; omega) (by show 1 ≤ 4; omega)
      refine ⟨fun g => fin ?_, fun _ => ⟨fun g => fin ?_, fun g => ?_⟩⟩
      · rw [nI_leI (by omega) (by omega)] at g
        omega
      · rw [nI_leI (by omega) (by omega)] at g
        exact g
      · rw [nI_leI (by omega) (by omega)] at g
        have hp : p < n := by omega
        rw [z_rd_s hp] at h3
        have he := z_tk_end (u := u) hp
        have bad : z_act (z_tk u n p).1 p (z_tk u n p).2.2 s = none → ∀ (due weight items room most steps : Int32) (profits weights : Nat → Int32), post (1 : Int32) (nI p) due weight items room most steps profits weights := fun hb due weight items room most steps profits weights => by
          rw [hb] at h3
          have h3' : ((1, p, s.2.2.2.2) : Nat × Nat × ZL) = z_read u n := h3
          rw [← h3'] at hk
          exact hk _ _ _ _ _ _ _ _ _ _ rfl (fun _ => rfl) (fun f => by have f' : (1 : Nat) = 0 := f; omega) (by show 1 ≤ 4; omega)
        refine s3_endOfToken ht hp ?_
        unfold wX3_readAll_54 z_te
        by_cases k1 : (z_tk u n p).1 = 1
        · rw [if_pos k1, nI_leI (by omega) (by omega)]
          refine ⟨fun _ => bad (by rw [k1]; rfl) _ _ _ _ _ _ _ _, fun z => absurd (Nat.le_refl _) z⟩
        · rw [if_neg k1, nI_leI (by omega) (by omega)]
          refine ⟨fun z => by omega, fun _ => ?_⟩
          refine s3_takesToken ht hp hi hx k1 (fun s' hs f1 f2 f3 f4 f5 f6 f7 f8 f9 hx' => ?_) (fun hs => ?_)
          · rw [hs] at h3
            have h3' : z_rd u n r (z_en (fun i => z_bl (u i)) n (z_tk u n p).2.1) s' = z_read u n := h3
            refine ⟨fun z => absurd z (by decide), fun _ => ?_⟩
            have b2 := (z_ru_ok (f := fun i => z_bl (u i)) (n := n) (r := n - (z_tk u n p).2.1) (p := (z_tk u n p).2.1))
            have b3 : (z_tk u n p).2.1 ≤ z_en (fun i => z_bl (u i)) n (z_tk u n p).2.1 := b2.1
            have b4 : z_en (fun i => z_bl (u i)) n (z_tk u n p).2.1 ≤ n := b2.2.1 he.2
            refine s3_behindBlanks ht he.2 ?_
            have e := ih _ (c + 1) s' _ _ _ _ _ _ _ _ _ _ b4 (by omega) (by omega) h3' (z_act_inv (by omega) hi hs) hx'
            rw [← show nI c + 1 = nI (c + 1) from nI_add c 1] at e
            exact e
          · exact ⟨fun _ => bad hs _ _ _ _ _ _ _ _, fun z => absurd rfl z⟩
  unfold wX3_readAll wX1_makeAsAtFirst wX3_readAll_7
  have b2 := (z_ru_ok (f := fun i => z_bl (u i)) (n := n) (r := n - 0) (p := 0))
  refine s3_behindBlanks ht (Nat.zero_le _) ?_
  exact ⟨_, key (n + 1) _ 0 (0, 0, 0, 0, 0, fun _ => 0, fun _ => 0, 100, 400, 0) _ _ _ _ _ _ _ _ _ _ (b2.2.1 (by omega)) (Nat.zero_le _) (by omega) rfl z_inv_0 ⟨rfl, rfl, rfl, rfl, rfl, rfl, rfl, rfl, fun k hk => absurd hk (Nat.not_lt_zero _)⟩⟩
