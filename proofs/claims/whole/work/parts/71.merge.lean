/-! two rows of sets become one -/
def z_ah (a b : ZT) : Bool := if a.1 = b.1 then (if a.2.1 = b.2.1 then decide (a.2.2 < b.2.2) else decide (b.2.1 < a.2.1)) else decide (a.1 < b.1)
def z_push (c : ZT) : List ZT → List ZT
  | [] => [c]
  | l :: R => if c.2.1 ≤ l.2.1 then l :: R else c :: l :: R
/-- as the class makes it; the last is ahead -/
def z_mc : List ZT → List ZT → List ZT → List ZT
  | [], [], R => R
  | a :: A, [], R => z_mc A [] (z_push a R)
  | [], b :: B, R => z_mc [] B (z_push b R)
  | a :: A, b :: B, R => if z_ah a b = true then z_mc A (b :: B) (z_push a R) else z_mc (a :: A) B (z_push b R)
termination_by A B _ => A.length + B.length
def z_comes (c : ZT) : List ZT → List ZT
  | [] => [c]
  | l :: R => if c.2.1 ≤ l.2.1 then (if (c.2.1 = l.2.1 ∧ c.1 = l.1) ∧ c.2.2 < l.2.2 then (l.1, l.2.1, c.2.2) :: R else l :: R) else if l.1 = c.1 then c :: R else c :: l :: R
/-- as the reference makes it -/
def z_mm : List ZT → List ZT → List ZT → List ZT
  | [], [], R => R
  | a :: A, [], R => z_mm A [] (z_comes a R)
  | [], b :: B, R => z_mm [] B (z_comes b R)
  | a :: A, b :: B, R => if a.1 ≤ b.1 then z_mm A (b :: B) (z_comes a R) else z_mm (a :: A) B (z_comes b R)
termination_by A B _ => A.length + B.length
def z_inc (l : List ZT) : Prop := l.Pairwise (fun a b => a.1 < b.1 ∧ a.2.1 < b.2.1)
def z_dec (l : List ZT) : Prop := l.Pairwise (fun a b => b.1 < a.1 ∧ b.2.1 < a.2.1)
def z_bel : List ZT → List ZT → Prop
  | r :: _, a :: _ => r.1 < a.1
  | _, _ => True
theorem z_comes_push {c : ZT} {R : List ZT} (h : z_bel R [c]) : z_comes c R = z_push c R := by
  cases R with
  | nil => rfl
  | cons l R =>
    have h1 : l.1 < c.1 := h
    simp only [z_comes, z_push]
    rw [if_neg (show ¬ ((c.2.1 = l.2.1 ∧ c.1 = l.1) ∧ c.2.2 < l.2.2) by omega), if_neg (show ¬ l.1 = c.1 by omega)]
theorem z_bel_push {c : ZT} {R A : List ZT} (h : z_bel R A) (hc : z_bel [c] A) : z_bel (z_push c R) A := by
  cases R with
  | nil => exact hc
  | cons l R =>
    simp only [z_push]
    split
    · exact h
    · cases A with
      | nil => trivial
      | cons a A => exact hc
theorem z_bel_tl {a : ZT} {A : List ZT} (h : z_inc (a :: A)) : z_bel [a] A := by
  cases A with
  | nil => trivial
  | cons b A => exact ((List.pairwise_cons.mp h).1 b List.mem_cons_self).1
theorem z_bel_up {R : List ZT} {a b : ZT} {A B : List ZT} (h : z_bel R (a :: A)) (hab : a.1 ≤ b.1) : z_bel R (b :: B) := by
  cases R with
  | nil => trivial
  | cons r R => exact Nat.lt_of_lt_of_le h hab
theorem z_bel_1 {R : List ZT} {a : ZT} {A : List ZT} (h : z_bel R (a :: A)) : z_bel R [a] := by
  cases R with
  | nil => trivial
  | cons r R => exact h
theorem z_bel_nil {R : List ZT} : z_bel R [] := by cases R <;> trivial
theorem z_inc_tl {a : ZT} {A : List ZT} (h : z_inc (a :: A)) : z_inc A := (List.pairwise_cons.mp h).2
theorem z_bel_next {R A : List ZT} {a : ZT} (h : z_bel R (a :: A)) (hi : z_inc (a :: A)) : z_bel R A := by
  cases A with
  | nil => exact z_bel_nil
  | cons b A => exact z_bel_up h (Nat.le_of_lt (z_bel_tl hi))
theorem z_push_drop {c : ZT} {R : List ZT} {l : ZT} (h : R.head? = some l) (hc : c.2.1 ≤ l.2.1) : z_push c R = R := by
  cases R with
  | nil => cases h
  | cons r R =>
    cases Option.some.inj h
    simp only [z_push]
    rw [if_pos hc]
/-- what is pushed, or the last, has no less profit -/
theorem z_push_top {c : ZT} {R : List ZT} : ∃ l, (z_push c R).head? = some l ∧ c.2.1 ≤ l.2.1 := by
  cases R with
  | nil => exact ⟨c, rfl, Nat.le_refl _⟩
  | cons r R =>
    simp only [z_push]
    split
    · exact ⟨r, rfl, by assumption⟩
    · exact ⟨c, rfl, Nat.le_refl _⟩
theorem z_mc_nb {b : ZT} {A B R : List ZT} (hA : z_bel [b] A) : z_mc A (b :: B) R = z_mc A B (z_push b R) := by
  cases A with
  | nil => rw [z_mc]
  | cons a A =>
    have h : b.1 < a.1 := hA
    rw [z_mc, if_neg]
    simp only [z_ah]
    rw [if_neg (show ¬ a.1 = b.1 by omega)]
    simp only [decide_eq_true_eq]
    omega
theorem z_mc_na {a : ZT} {A B R : List ZT} (hB : z_bel [a] B) : z_mc (a :: A) B R = z_mc A B (z_push a R) := by
  cases B with
  | nil => rw [z_mc]
  | cons b B =>
    have h : a.1 < b.1 := hB
    rw [z_mc, if_pos]
    simp only [z_ah]
    rw [if_neg (show ¬ a.1 = b.1 by omega)]
    simp only [decide_eq_true_eq]
    omega
theorem z_mm_nb {b : ZT} {A B R : List ZT} (hA : z_bel [b] A) : z_mm A (b :: B) R = z_mm A B (z_comes b R) := by
  cases A with
  | nil => rw [z_mm]
  | cons a A =>
    have h : b.1 < a.1 := hA
    rw [z_mm, if_neg (by omega)]
theorem z_mm_na {a : ZT} {A B R : List ZT} (hB : z_bel [a] B) : z_mm (a :: A) B R = z_mm A B (z_comes a R) := by
  cases B with
  | nil => rw [z_mm]
  | cons b B =>
    have h : a.1 < b.1 := hB
    rw [z_mm, if_pos (by omega)]
theorem z_dec_push {c : ZT} {R : List ZT} (h : z_dec R) (hb : z_bel R [c]) : z_dec (z_push c R) := by
  cases R with
  | nil => exact List.pairwise_singleton _ _
  | cons l R =>
    simp only [z_push]
    split
    · exact h
    · have h1 : l.1 < c.1 := hb
      refine List.pairwise_cons.mpr ⟨fun x hx => ?_, h⟩
      rcases List.mem_cons.mp hx with rfl | hx
      · exact ⟨h1, by omega⟩
      · have h2 := (List.pairwise_cons.mp h).1 x hx
        exact ⟨by omega, by omega⟩
/-- both ways come to the same row, and it rises -/
theorem z_same (n : Nat) : ∀ {A B R : List ZT}, A.length + B.length ≤ n → z_inc A → z_inc B → z_dec R → z_bel R A → z_bel R B → z_mm A B R = z_mc A B R ∧ z_dec (z_mc A B R) := by
  induction n using Nat.strongRecOn with
  | _ n ih =>
    intro A B R hn hA hB hR h1 h2
    cases A with
    | nil =>
      cases B with
      | nil => rw [z_mm, z_mc]; exact ⟨rfl, hR⟩
      | cons b B =>
        rw [z_mm, z_mc, z_comes_push (z_bel_1 h2)]
        simp only [List.length_cons, List.length_nil] at hn
        exact ih (n - 1) (by omega) (by simp only [List.length_nil]; omega) hA (z_inc_tl hB) (z_dec_push hR (z_bel_1 h2)) z_bel_nil (z_bel_push (z_bel_next h2 hB) (z_bel_tl hB))
    | cons a A =>
      cases B with
      | nil =>
        rw [z_mm, z_mc, z_comes_push (z_bel_1 h1)]
        simp only [List.length_cons, List.length_nil] at hn
        exact ih (n - 1) (by omega) (by simp only [List.length_nil]; omega) (z_inc_tl hA) hB (z_dec_push hR (z_bel_1 h1)) (z_bel_push (z_bel_next h1 hA) (z_bel_tl hA)) z_bel_nil
      | cons b B =>
        simp only [List.length_cons] at hn
        rcases Nat.lt_trichotomy a.1 b.1 with h | h | h
        · rw [z_mm_na (show z_bel [a] (b :: B) from h), z_mc_na (show z_bel [a] (b :: B) from h), z_comes_push (z_bel_1 h1)]
          exact ih (n - 1) (by omega) (by simp only [List.length_cons]; omega) (z_inc_tl hA) hB (z_dec_push hR (z_bel_1 h1)) (z_bel_push (z_bel_next h1 hA) (z_bel_tl hA)) (z_bel_push h2 (show z_bel [a] (b :: B) from h))
        · have hbA : z_bel [b] A := by
            cases A with
            | nil => trivial
            | cons a2 A => have := z_bel_tl hA; exact (show b.1 < a2.1 from h ▸ this)
          have haB : z_bel [a] B := by
            cases B with
            | nil => trivial
            | cons b2 B => have := z_bel_tl hB; exact (show a.1 < b2.1 from h ▸ this)
          rw [z_mm, if_pos (by omega), z_comes_push (z_bel_1 h1), z_mm_nb hbA]
          by_cases g : z_ah a b = true
          · rw [z_mc, if_pos g, z_mc_nb hbA]
            have gp : b.2.1 ≤ a.2.1 ∧ (b.2.1 = a.2.1 → a.2.2 < b.2.2) := by
              simp only [z_ah] at g
              rw [if_pos h] at g
              split at g
              · simp only [decide_eq_true_eq] at g; exact ⟨by omega, fun _ => g⟩
              · simp only [decide_eq_true_eq] at g; exact ⟨by omega, fun _ => by omega⟩
            obtain ⟨l, hl, hal⟩ := z_push_top (c := a) (R := R)
            rw [z_push_drop hl (by omega)]
            have e : z_comes b (z_push a R) = z_push a R := by
              cases R with
              | nil =>
                simp only [z_push, z_comes]
                rw [if_pos gp.1, if_neg (by intro z; have := gp.2 z.1.1; omega)]
              | cons r R =>
                have hr : r.1 < a.1 := h1
                simp only [z_push]
                split
                · simp only [z_comes]
                  rw [if_pos (by omega), if_neg (by omega)]
                · simp only [z_comes]
                  rw [if_pos gp.1, if_neg (by intro z; have := gp.2 z.1.1; omega)]
            rw [e]
            exact ih (n - 1) (by omega) (by omega) (z_inc_tl hA) (z_inc_tl hB) (z_dec_push hR (z_bel_1 h1)) (z_bel_push (z_bel_next h1 hA) (z_bel_tl hA)) (z_bel_push (z_bel_next h2 hB) haB)
          · rw [z_mc, if_neg g, z_mc_na haB]
            have gp : a.2.1 ≤ b.2.1 ∧ (b.2.1 = a.2.1 → b.2.2 ≤ a.2.2) := by
              simp only [z_ah] at g
              rw [if_pos h] at g
              split at g
              · simp only [decide_eq_true_eq] at g; exact ⟨by omega, fun _ => by omega⟩
              · simp only [decide_eq_true_eq] at g; exact ⟨by omega, fun _ => by omega⟩
            obtain ⟨l, hl, hal⟩ := z_push_top (c := b) (R := R)
            rw [z_push_drop hl (by omega)]
            have e : z_comes b (z_push a R) = z_push b R := by
              cases R with
              | nil =>
                simp only [z_push, z_comes]
                split
                · split
                  · exact congrArg (· :: []) (Prod.ext h (Prod.ext (show a.2.1 = b.2.1 by omega) rfl))
                  · exact congrArg (· :: []) (Prod.ext h (Prod.ext (show a.2.1 = b.2.1 by omega) (show a.2.2 = b.2.2 by have := gp.2 (by omega); omega)))
                · first | rfl | rw [if_pos h]
              | cons r R =>
                have hr : r.1 < a.1 := h1
                simp only [z_push]
                split
                · simp only [z_comes]
                  split
                  · rw [if_neg (by omega)]
                  · rw [if_neg (by omega)]
                · rw [if_neg (show ¬ b.2.1 ≤ r.2.1 by omega)]
                  simp only [z_comes]
                  split
                  · split
                    · exact congrArg (· :: r :: R) (Prod.ext h (Prod.ext (show a.2.1 = b.2.1 by omega) rfl))
                    · exact congrArg (· :: r :: R) (Prod.ext h (Prod.ext (show a.2.1 = b.2.1 by omega) (show a.2.2 = b.2.2 by have := gp.2 (by omega); omega)))
                  · first | rfl | rw [if_pos h]
            rw [e]
            exact ih (n - 1) (by omega) (by omega) (z_inc_tl hA) (z_inc_tl hB) (z_dec_push hR (z_bel_1 h2)) (z_bel_push (z_bel_next h1 hA) hbA) (z_bel_push (z_bel_next h2 hB) (z_bel_tl hB))
        · rw [z_mm_nb (show z_bel [b] (a :: A) from h), z_mc_nb (show z_bel [b] (a :: A) from h), z_comes_push (z_bel_1 h2)]
          exact ih (n - 1) (by omega) (by simp only [List.length_cons]; omega) hA (z_inc_tl hB) (z_dec_push hR (z_bel_1 h2)) (z_bel_push h1 (show z_bel [b] (a :: A) from h)) (z_bel_push (z_bel_next h2 hB) (z_bel_tl hB))
theorem z_push_mem {c x : ZT} {R : List ZT} (h : x ∈ z_push c R) : x = c ∨ x ∈ R := by
  cases R with
  | nil => exact Or.inl (List.mem_singleton.mp h)
  | cons l R =>
    simp only [z_push] at h
    split at h
    · exact Or.inr h
    · exact List.mem_cons.mp h
theorem z_push_len {c : ZT} {R : List ZT} : R.length ≤ (z_push c R).length ∧ (z_push c R).length ≤ R.length + 1 := by
  cases R with
  | nil => exact ⟨by simp, by simp [z_push]⟩
  | cons l R =>
    simp only [z_push]
    split
    · simp
    · simp
theorem z_mc_all (n : Nat) : ∀ {A B R : List ZT}, A.length + B.length ≤ n → (∀ x ∈ z_mc A B R, x ∈ A ∨ x ∈ B ∨ x ∈ R) ∧ R.length ≤ (z_mc A B R).length ∧ (z_mc A B R).length ≤ A.length + B.length + R.length := by
  induction n with
  | zero =>
    intro A B R hn
    cases A with
    | cons a A => simp only [List.length_cons] at hn; omega
    | nil =>
      cases B with
      | cons b B => simp only [List.length_cons] at hn; omega
      | nil => rw [z_mc]; exact ⟨fun x hx => Or.inr (Or.inr hx), Nat.le_refl _, by simp⟩
  | succ n ih =>
    intro A B R hn
    have hp := fun (c : ZT) => z_push_len (c := c) (R := R)
    cases A with
    | nil =>
      cases B with
      | nil => rw [z_mc]; exact ⟨fun x hx => Or.inr (Or.inr hx), Nat.le_refl _, by simp⟩
      | cons b B =>
        rw [z_mc]
        simp only [List.length_cons, List.length_nil] at hn ⊢
        obtain ⟨h1, h2, h3⟩ := ih (A := []) (B := B) (R := z_push b R) (by simp only [List.length_nil]; omega)
        have := hp b
        simp only [List.length_nil] at h3
        refine ⟨fun x hx => ?_, by omega, by omega⟩
        rcases h1 x hx with h | h | h
        · exact Or.inl h
        · exact Or.inr (Or.inl (List.mem_cons_of_mem _ h))
        · rcases z_push_mem h with rfl | h
          · exact Or.inr (Or.inl List.mem_cons_self)
          · exact Or.inr (Or.inr h)
    | cons a A =>
      cases B with
      | nil =>
        rw [z_mc]
        simp only [List.length_cons, List.length_nil] at hn ⊢
        obtain ⟨h1, h2, h3⟩ := ih (A := A) (B := []) (R := z_push a R) (by simp only [List.length_nil]; omega)
        have := hp a
        simp only [List.length_nil] at h3
        refine ⟨fun x hx => ?_, by omega, by omega⟩
        rcases h1 x hx with h | h | h
        · exact Or.inl (List.mem_cons_of_mem _ h)
        · exact Or.inr (Or.inl h)
        · rcases z_push_mem h with rfl | h
          · exact Or.inl List.mem_cons_self
          · exact Or.inr (Or.inr h)
      | cons b B =>
        rw [z_mc]
        simp only [List.length_cons] at hn ⊢
        split
        · obtain ⟨h1, h2, h3⟩ := ih (A := A) (B := b :: B) (R := z_push a R) (by simp only [List.length_cons]; omega)
          have := hp a
          simp only [List.length_cons] at h3
          refine ⟨fun x hx => ?_, by omega, by omega⟩
          rcases h1 x hx with h | h | h
          · exact Or.inl (List.mem_cons_of_mem _ h)
          · exact Or.inr (Or.inl h)
          · rcases z_push_mem h with rfl | h
            · exact Or.inl List.mem_cons_self
            · exact Or.inr (Or.inr h)
        · obtain ⟨h1, h2, h3⟩ := ih (A := a :: A) (B := B) (R := z_push b R) (by simp only [List.length_cons]; omega)
          have := hp b
          simp only [List.length_cons] at h3
          refine ⟨fun x hx => ?_, by omega, by omega⟩
          rcases h1 x hx with h | h | h
          · exact Or.inl h
          · exact Or.inr (Or.inl (List.mem_cons_of_mem _ h))
          · rcases z_push_mem h with rfl | h
            · exact Or.inr (Or.inl List.mem_cons_self)
            · exact Or.inr (Or.inr h)
