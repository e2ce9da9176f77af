/-! Arrays.fill, and rows of objects that are filled one by one -/
def xfill (f : Nat → Int32) (v : Int32) : Nat → Nat → Int32
  | 0 => f
  | k + 1 => upd (xfill f v k) k v
theorem fill_h (n : Nat) (v : Int32) (f : Nat → Int32) {post : (Nat → Int32) → Prop} (hn : n < 2 ^ 31) (h : post (xfill f v n)) : wJ7_fill_53178 n post f v := by
  have key : ∀ (k i : Nat), i + k = n → wJ7_fill_53178_5 n post (k + 1) (xfill f v i) v (nI i) (nI n) := by
    intro k
    induction k with
    | zero =>
      intro i hi
      have hin : i = n := by omega
      subst hin
      exact ⟨fun _ => h, fun c => absurd (nI_le (Nat.le_refl i) hn) c⟩
    | succ k ih =>
      intro i hi
      refine ⟨fun c => absurd c (nI_ge (by omega) hn), fun _ => ⟨vp_in_nI (by omega) hn, ?_⟩⟩
      rw [nI_clamp (by omega), nI_1]
      exact ih (i + 1) (by omega)
  exact ⟨n + 1, key n 0 (by omega)⟩
theorem x_rowpush (l : List Nat) (i : Int32) (v k : Nat) (hi : i.toNatClampNeg = k) (hk : l.length = k) : va_up (xrow l) i.toNatClampNeg (some v) = xrow (l ++ [v]) := by
  rw [hi]
  funext j
  by_cases hj : j = k
  · subst hj
    simp [va_up, xrow, ← hk]
  · simp only [va_up, xrow, if_neg hj]
    by_cases hl : j < l.length
    · rw [List.getElem?_append_left hl]
    · rw [List.getElem?_append_right (by omega), List.getElem?_eq_none (by omega), List.getElem?_eq_none (by simp; omega)]
