/-! what class and reference come to, in plain numbers -/
theorem q32 (n : Nat) : (no_index (OfNat.ofNat n) : Int32) = nI (OfNat.ofNat n) := rfl
theorem q64 (n : Nat) : (no_index (OfNat.ofNat n) : Int64) = lN (OfNat.ofNat n) := rfl
theorem nI_sub {a b : Nat} (h : b ≤ a) : nI a - nI b = nI (a - b) := by
  have h1 : nI a = nI (a - b) + nI b := by rw [nI_add, Nat.sub_add_cancel h]
  rw [h1, Int32.add_sub_cancel]
theorem nI_an {a b : Nat} (h : b ≤ a) : nI a + -nI b = nI (a - b) := by
  rw [← Int32.sub_eq_add_neg, nI_sub h]
theorem lN_an {a b : Nat} (h : b ≤ a) : lN a + -lN b = lN (a - b) := by
  rw [← Int64.sub_eq_add_neg, lN_sub h]
/-- weight, profit, bits of a set -/
abbrev ZT : Type := Nat × Nat × Nat
def z_sm (f : Nat → Nat) : Nat → Nat
  | 0 => 0
  | n + 1 => z_sm f n + f n
theorem z_sm_le {f : Nat → Nat} {m n : Nat} (h : m ≤ n) : z_sm f m ≤ z_sm f n := by
  induction n with
  | zero => cases Nat.le_zero.mp h; exact Nat.le_refl _
  | succ n ih =>
    rcases Nat.lt_or_eq_of_le h with h1 | h1
    · exact Nat.le_trans (ih (Nat.le_of_lt_succ h1)) (Nat.le_add_right _ _)
    · rw [h1]; exact Nat.le_refl _
theorem z_sm_congr {f g : Nat → Nat} {n : Nat} (h : ∀ i, i < n → f i = g i) : z_sm f n = z_sm g n := by
  induction n with
  | zero => rfl
  | succ n ih => simp only [z_sm]; rw [ih (fun i hi => h i (by omega)), h n (by omega)]
theorem z_sm_1 {f : Nat → Nat} {i n : Nat} (h : i < n) : f i ≤ z_sm f n := by
  have h1 : z_sm f (i + 1) ≤ z_sm f n := z_sm_le h
  simp only [z_sm] at h1
  omega
def z_up (f : Nat → Nat) (k x : Nat) : Nat → Nat := fun j => if j = k then x else f j
theorem z_up_s {f : Nat → Nat} {k x : Nat} : z_up f k x k = x := if_pos rfl
theorem z_up_n {f : Nat → Nat} {k x j : Nat} (h : j ≠ k) : z_up f k x j = f j := if_neg h
theorem z_sm_up_ge {f : Nat → Nat} {n k x : Nat} (h : n ≤ k) : z_sm (z_up f k x) n = z_sm f n := z_sm_congr (fun i hi => z_up_n (by omega))
theorem z_sm_up {f : Nat → Nat} {n k x : Nat} (h : k < n) : z_sm (z_up f k x) n + f k = z_sm f n + x := by
  induction n with
  | zero => omega
  | succ n ih =>
    simp only [z_sm]
    by_cases e : k = n
    · subst e
      rw [z_sm_up_ge (Nat.le_refl _), z_up_s]; omega
    · have := ih (by omega)
      rw [z_up_n (show n ≠ k by omega)]; omega
/-- a new one goes to its place, from the right -/
def z_ins (b : Nat → Nat → Bool) (x : Nat) : Nat → (Nat → Nat) → (Nat → Nat)
  | 0, f => z_up f 0 x
  | k + 1, f => if b x (f k) = true then z_ins b x k (z_up f (k + 1) (f k)) else z_up f (k + 1) x
theorem z_ins_above {b : Nat → Nat → Bool} {x : Nat} : ∀ {k : Nat} {f : Nat → Nat} {j : Nat}, k < j → z_ins b x k f j = f j
  | 0, f, j, h => z_up_n (by omega)
  | k + 1, f, j, h => by
    unfold z_ins
    split
    · rw [z_ins_above (by omega), z_up_n (by omega)]
    · exact z_up_n (by omega)
/-- what lies at k itself is of no matter -/
theorem z_ins_congr {b : Nat → Nat → Bool} {x : Nat} : ∀ {k : Nat} {f g : Nat → Nat} (m : Nat), k ≤ m → (∀ j, j ≤ m → j ≠ k → f j = g j) → ∀ j, j ≤ m → z_ins b x k f j = z_ins b x k g j
  | 0, f, g, m, hk, h, j, hj => by
    unfold z_ins z_up
    split
    · rfl
    · exact h j hj (by omega)
  | k + 1, f, g, m, hk, h, j, hj => by
    unfold z_ins
    rw [h k (by omega) (by omega)]
    split
    · refine z_ins_congr m (by omega) (fun i hi hn => ?_) j hj
      unfold z_up
      split
      · rfl
      · exact h i hi (by omega)
    · unfold z_up
      split
      · rfl
      · exact h j hj (by omega)
theorem z_ins_sum {b : Nat → Nat → Bool} {x : Nat} (h : Nat → Nat) : ∀ {k : Nat} {f : Nat → Nat} {n : Nat}, k < n → z_sm (fun j => h (z_ins b x k f j)) n = z_sm (fun j => h (z_up f k x j)) n
  | 0, f, n, hk => rfl
  | k + 1, f, n, hk => by
    unfold z_ins
    split
    · rw [z_ins_sum h (by omega)]
      have e1 : (fun j => h (z_up (z_up f (k + 1) (f k)) k x j)) = z_up (z_up (fun j => h (f j)) (k + 1) (h (f k))) k (h x) := by
        funext j
        simp only [z_up]
        split
        · rfl
        · split
          · rfl
          · rfl
      have e2 : (fun j => h (z_up f (k + 1) x j)) = z_up (fun j => h (f j)) (k + 1) (h x) := by
        funext j
        simp only [z_up]
        split
        · rfl
        · rfl
      rw [e1, e2]
      have a1 := z_sm_up (f := z_up (fun j => h (f j)) (k + 1) (h (f k))) (n := n) (k := k) (x := h x) (by omega)
      have a2 := z_sm_up (f := fun j => h (f j)) (n := n) (k := k + 1) (x := h (f k)) (by omega)
      have a3 := z_sm_up (f := fun j => h (f j)) (n := n) (k := k + 1) (x := h x) (by omega)
      rw [z_up_n (show k ≠ k + 1 by omega)] at a1
      omega
    · rfl
theorem z_ins_lt {b : Nat → Nat → Bool} {x B : Nat} (hx : x < B) : ∀ {k : Nat} {f : Nat → Nat} (m : Nat), k ≤ m → (∀ j, j ≤ m → j ≠ k → f j < B) → ∀ j, j ≤ m → z_ins b x k f j < B
  | 0, f, m, hk, h, j, hj => by
    unfold z_ins z_up
    split
    · exact hx
    · exact h j hj (by omega)
  | k + 1, f, m, hk, h, j, hj => by
    unfold z_ins
    split
    · refine z_ins_lt hx m (by omega) (fun i hi hn => ?_) j hj
      unfold z_up
      split
      · exact h k (by omega) (by omega)
      · exact h i hi (by omega)
    · unfold z_up
      split
      · exact hx
      · exact h j hj (by omega)
theorem z_ins_surj {b : Nat → Nat → Bool} {x v : Nat} : ∀ {k : Nat} {f : Nat → Nat} (m : Nat), k ≤ m → (v = x ∨ ∃ j, j ≤ m ∧ j ≠ k ∧ f j = v) → ∃ j, j ≤ m ∧ z_ins b x k f j = v
  | 0, f, m, hk, h => by
    unfold z_ins
    rcases h with h | ⟨j, h1, h2, h3⟩
    · exact ⟨0, by omega, by rw [z_up_s, h]⟩
    · exact ⟨j, h1, by rw [z_up_n h2, h3]⟩
  | k + 1, f, m, hk, h => by
    unfold z_ins
    split
    · refine z_ins_surj m (by omega) ?_
      rcases h with h | ⟨j, h1, h2, h3⟩
      · exact Or.inl h
      · refine Or.inr ?_
        by_cases e : j = k
        · exact ⟨k + 1, by omega, by omega, by rw [z_up_s, ← e, h3]⟩
        · exact ⟨j, h1, e, by rw [z_up_n h2, h3]⟩
    · rcases h with h | ⟨j, h1, h2, h3⟩
      · exact ⟨k + 1, by omega, by rw [z_up_s, h]⟩
      · exact ⟨j, h1, by rw [z_up_n h2, h3]⟩
/-- the items in their order -/
def z_ord (b : Nat → Nat → Bool) : Nat → (Nat → Nat)
  | 0 => fun _ => 0
  | m + 1 => z_ins b m m (z_ord b m)
theorem z_ord_lt {b : Nat → Nat → Bool} : ∀ {n j : Nat}, j < n → z_ord b n j < n
  | n + 1, j, h => by
    unfold z_ord
    exact z_ins_lt (by omega) n (Nat.le_refl _) (fun i hi hn => Nat.lt_succ_of_lt (z_ord_lt (by omega))) j (by omega)
theorem z_ord_surj {b : Nat → Nat → Bool} : ∀ {n v : Nat}, v < n → ∃ j, j < n ∧ z_ord b n j = v
  | n + 1, v, h => by
    unfold z_ord
    obtain ⟨j, h1, h2⟩ := z_ins_surj (b := b) (x := n) (v := v) (f := z_ord b n) (k := n) n (Nat.le_refl _) (by
      by_cases e : v = n
      · exact Or.inl e
      · obtain ⟨j, g1, g2⟩ := z_ord_surj (b := b) (n := n) (v := v) (by omega)
        exact Or.inr ⟨j, by omega, by omega, g2⟩)
    exact ⟨j, by omega, h2⟩
theorem z_ord_sum {b : Nat → Nat → Bool} (h : Nat → Nat) : ∀ {n : Nat}, z_sm (fun j => h (z_ord b n j)) n = z_sm h n
  | 0 => rfl
  | n + 1 => by
    unfold z_ord
    rw [z_ins_sum h (by omega)]
    have e2 : (fun j => h (z_up (z_ord b n) n n j)) = z_up (fun j => h (z_ord b n j)) n (h n) := by
      funext j
      simp only [z_up]
      split
      · rfl
      · rfl
    rw [e2]
    simp only [z_sm]
    rw [z_sm_up_ge (Nat.le_refl _), z_up_s, z_ord_sum h]
/-- the place of an item: the last that holds it -/
def z_pl (o : Nat → Nat) (i : Nat) : Nat → Nat
  | 0 => 0
  | k + 1 => if o k = i then k else z_pl o i k
theorem z_pl_spec {o : Nat → Nat} {i : Nat} : ∀ {n : Nat}, (∃ j, j < n ∧ o j = i) → z_pl o i n < n ∧ o (z_pl o i n) = i
  | n + 1, ⟨j, h1, h2⟩ => by
    unfold z_pl
    split
    · exact ⟨by omega, by assumption⟩
    · obtain ⟨a, c⟩ := z_pl_spec (o := o) (i := i) (n := n) ⟨j, by
        by_cases e : j = n
        · subst e; contradiction
        · omega, h2⟩
      exact ⟨by omega, c⟩
/-- what is ahead: more profit for its weight -/
def z_bt (W P : Nat → Nat) (x y : Nat) : Bool := decide (P y * W x < P x * W y)
/-- where the order breaks -/
def z_bk (w : Nat → Nat) (R : Nat) : Nat → Nat → Nat
  | 0, k => k
  | r + 1, k => if z_sm w (k + 1) ≤ R then z_bk w R r (k + 1) else k
theorem z_bk_spec {w : Nat → Nat} {R : Nat} : ∀ {r k : Nat}, z_sm w k ≤ R → k ≤ z_bk w R r k ∧ z_bk w R r k ≤ k + r ∧ z_sm w (z_bk w R r k) ≤ R
  | 0, k, h => ⟨Nat.le_refl _, Nat.le_refl _, h⟩
  | r + 1, k, h => by
    unfold z_bk
    split
    · obtain ⟨a, c, d⟩ := z_bk_spec (w := w) (R := R) (r := r) (k := k + 1) (by assumption)
      exact ⟨by omega, by omega, d⟩
    · exact ⟨Nat.le_refl _, by omega, h⟩
