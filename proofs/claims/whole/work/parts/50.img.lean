theorem x_img0 (f : Nat → Option Nat) (i : Int32) (k : Nat) (hi : i.toNatClampNeg = k) (h : f k = none) : va_rf (f i.toNatClampNeg) = .null := by
  rw [hi, h]
  rfl
theorem x_img1 (f : Nat → Option Nat) (i : Int32) (k a : Nat) (hi : i.toNatClampNeg = k) (h : f k = some a) : va_rf (f i.toNatClampNeg) = .ref a := by
  rw [hi, h]
  rfl
theorem x_img2 (f : Nat → Option Nat) (i : Int32) (a : Nat) : va_rf (va_up f i.toNatClampNeg (some a) i.toNatClampNeg) = .ref a := by
  unfold va_up
  rw [if_pos rfl]
  rfl
