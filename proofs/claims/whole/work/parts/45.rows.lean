/-! rows of objects, told by the list of their places -/
def xrow (l : List Nat) : Nat → Option Nat := fun k => l[k]?
def xs8 {α : Type} (a0 a1 a2 a3 a4 a5 a6 a7 : α) : Nat → α := fun j => match j with
  | 0 => a0
  | 1 => a1
  | 2 => a2
  | 3 => a3
  | 4 => a4
  | 5 => a5
  | 6 => a6
  | _ => a7
theorem x_row (l : List Nat) (i : Int32) (k a : Nat) (hi : i.toNatClampNeg = k) (h : l[k]? = some a) : va_rf (xrow l i.toNatClampNeg) = .ref a := by
  rw [hi]
  show va_rf (l[k]?) = _
  rw [h]
  rfl
theorem x_rowset (l : List Nat) (i : Int32) (v k : Nat) (hi : i.toNatClampNeg = k) (hk : k < l.length) : va_up (xrow l) i.toNatClampNeg (some v) = xrow (l.set k v) := by
  rw [hi]
  funext j
  by_cases hj : j = k
  · subst hj
    simp [va_up, xrow, hk]
  · simp [va_up, xrow, hj, Ne.symm hj]
