/-! the ones of a long, by the library's way; set -/
theorem n_split {x m : Nat} (z M : Nat) (hx : x < 256) (hm : m < 256) : (x + 256 * z) &&& (m + 256 * M) = (x &&& m) + 256 * (z &&& M) := by
  have h1 : (x &&& m) < 2 ^ 8 := Nat.and_lt_two_pow _ hm
  have e1 : x + 256 * z = 2 ^ 8 * z + x := by omega
  have e2 : m + 256 * M = 2 ^ 8 * M + m := by omega
  have e3 : (x &&& m) + 256 * (z &&& M) = 2 ^ 8 * (z &&& M) + (x &&& m) := by omega
  rw [e1, e2, e3]
  refine Nat.eq_of_testBit_eq (fun j => ?_)
  rw [Nat.testBit_and, Nat.testBit_two_pow_mul_add _ hx, Nat.testBit_two_pow_mul_add _ hm, Nat.testBit_two_pow_mul_add _ h1]
  split
  · rw [Nat.testBit_and]
  · rw [Nat.testBit_and]
/-- a number out of bytes -/
def n_val : List Nat → Nat
  | [] => 0
  | y :: t => y + 256 * n_val t
def n_rep (m : Nat) : Nat → Nat
  | 0 => 0
  | k + 1 => m + 256 * n_rep m k
def n_g1 (y : Nat) : Nat := y - (y / 2 &&& 85)
def n_g2 (y : Nat) : Nat := (y &&& 51) + (y / 4 &&& 51)
def n_g3 (y : Nat) : Nat := (y + y / 16) &&& 15
theorem n_d1 : ∀ y, y < 256 → ∀ t, t < 2 → ((y / 2 + 128 * t) &&& 85) = (y / 2 &&& 85) ∧ (y / 2 &&& 85) ≤ y ∧ n_g1 y < 256 := by decide +kernel
theorem n_d2 : ∀ y, y < 256 → ∀ t, t < 4 → ((y / 4 + 64 * t) &&& 51) = (y / 4 &&& 51) := by decide +kernel
theorem n_d2' : ∀ y, y < 256 → n_g2 (n_g1 y) % 16 ≤ 4 ∧ n_g2 (n_g1 y) ≤ 68 := by decide +kernel
theorem n_d3 : ∀ y, y < 69 → ∀ t, t < 5 → ((y + y / 16 + 16 * t) &&& 15) = n_g3 y := by decide +kernel
theorem n_d4 : ∀ y, y < 256 → n_g3 (n_g2 (n_g1 y)) = z_many (z_on y) 8 := by decide +kernel
theorem n_s1 : ∀ {l : List Nat}, (∀ y ∈ l, y < 256) → (n_val l / 2 &&& n_rep 85 l.length) ≤ n_val l ∧ n_val l - (n_val l / 2 &&& n_rep 85 l.length) = n_val (l.map n_g1)
  | [], _ => ⟨by simp [n_val, n_rep], by simp [n_val, n_rep]⟩
  | y :: t, h => by
    have hy := h y List.mem_cons_self
    obtain ⟨i1, i2⟩ := n_s1 (l := t) (fun x hx => h x (List.mem_cons_of_mem _ hx))
    have hd := n_d1 y hy (n_val t % 2) (Nat.mod_lt _ (by omega))
    have e : n_val (y :: t) / 2 = (y / 2 + 128 * (n_val t % 2)) + 256 * (n_val t / 2) := by simp only [n_val]; omega
    have e2 : (n_val (y :: t) / 2 &&& n_rep 85 (y :: t).length) = (y / 2 &&& 85) + 256 * (n_val t / 2 &&& n_rep 85 t.length) := by
      rw [e]
      show (_ &&& (85 + 256 * n_rep 85 t.length)) = _
      rw [n_split _ _ (by omega) (by omega), hd.1]
    rw [e2]
    simp only [List.map_cons, n_val]
    rw [← i2]
    unfold n_g1
    omega
theorem n_s2 : ∀ {l : List Nat}, (∀ y ∈ l, y < 256) → (n_val l &&& n_rep 51 l.length) + (n_val l / 4 &&& n_rep 51 l.length) = n_val (l.map n_g2)
  | [], _ => by simp [n_val, n_rep]
  | y :: t, h => by
    have hy := h y List.mem_cons_self
    have i2 := n_s2 (l := t) (fun x hx => h x (List.mem_cons_of_mem _ hx))
    have hd := n_d2 y hy (n_val t % 4) (Nat.mod_lt _ (by omega))
    have e : n_val (y :: t) / 4 = (y / 4 + 64 * (n_val t % 4)) + 256 * (n_val t / 4) := by simp only [n_val]; omega
    have e2 : (n_val (y :: t) / 4 &&& n_rep 51 (y :: t).length) = (y / 4 &&& 51) + 256 * (n_val t / 4 &&& n_rep 51 t.length) := by
      rw [e]
      show (_ &&& (51 + 256 * n_rep 51 t.length)) = _
      rw [n_split _ _ (by omega) (by omega), hd]
    have e3 : (n_val (y :: t) &&& n_rep 51 (y :: t).length) = (y &&& 51) + 256 * (n_val t &&& n_rep 51 t.length) := by
      show (y + 256 * n_val t) &&& (51 + 256 * n_rep 51 t.length) = _
      rw [n_split _ _ hy (by omega)]
    rw [e2, e3]
    simp only [List.map_cons, n_val]
    rw [← i2]
    unfold n_g2
    omega
theorem n_s3 : ∀ {l : List Nat}, (∀ y ∈ l, y % 16 ≤ 4 ∧ y ≤ 68) → ((n_val l + n_val l / 16) &&& n_rep 15 l.length) = n_val (l.map n_g3)
  | [], _ => by simp [n_val, n_rep]
  | y :: t, h => by
    have hy := h y List.mem_cons_self
    have i2 := n_s3 (l := t) (fun x hx => h x (List.mem_cons_of_mem _ hx))
    have ht : n_val t % 16 ≤ 4 := by
      cases t with
      | nil => simp [n_val]
      | cons a t =>
        have := (h a (List.mem_cons_of_mem _ List.mem_cons_self)).1
        simp only [n_val]
        omega
    have hd := n_d3 y (by omega) (n_val t % 16) (by omega)
    have e : n_val (y :: t) + n_val (y :: t) / 16 = (y + y / 16 + 16 * (n_val t % 16)) + 256 * (n_val t + n_val t / 16) := by simp only [n_val]; omega
    rw [e]
    show (_ &&& (15 + 256 * n_rep 15 t.length)) = _
    rw [n_split _ _ (by omega) (by omega), hd, i2]
    rfl
theorem z_many_add {f : Nat → Bool} {m : Nat} : ∀ {n : Nat}, z_many f (m + n) = z_many f m + z_many (fun j => f (m + j)) n
  | 0 => rfl
  | n + 1 => by
    have ih := z_many_add (f := f) (m := m) (n := n)
    have e : z_many f (m + (n + 1)) = z_many f (m + n) + (if f (m + n) = true then 1 else 0) := rfl
    have e2 : z_many (fun j => f (m + j)) (n + 1) = z_many (fun j => f (m + j)) n + (if f (m + n) = true then 1 else 0) := rfl
    rw [e, e2, ih]
    omega
theorem z_many_congr {f g : Nat → Bool} : ∀ {n : Nat}, (∀ j, j < n → f j = g j) → z_many f n = z_many g n
  | 0, _ => rfl
  | n + 1, h => by
    simp only [z_many]
    rw [z_many_congr (fun j hj => h j (by omega)), h n (by omega)]
theorem n_ones {y c n : Nat} (hy : y < 256) : z_many (z_on (y + 256 * c)) (8 + n) = z_many (z_on y) 8 + z_many (z_on c) n := by
  rw [z_many_add]
  congr 1
  · refine z_many_congr (fun j hj => ?_)
    unfold z_on
    congr 1
    have e : (y + 256 * c) / 2 ^ j % 2 = y / 2 ^ j % 2 := by
      have h8 : 256 = 2 ^ j * (2 * 2 ^ (7 - j)) := by
        rw [← Nat.mul_assoc, Nat.mul_comm (2 ^ j) 2, Nat.mul_assoc, ← Nat.pow_add, show j + (7 - j) = 7 by omega]
      rw [h8, Nat.mul_assoc, Nat.add_mul_div_left _ _ (Nat.pow_pos (by omega)), Nat.mul_assoc, Nat.add_mul_mod_self_left]
    rw [e]
  · refine z_many_congr (fun j _ => ?_)
    unfold z_on
    rw [Nat.pow_add, ← Nat.div_div_eq_div_mul, show (y + 256 * c) / 2 ^ 8 = c by omega]
theorem n_q1 {a c : Nat} (ha : a < 256) : (a + 256 * c) / 256 = c := by omega
theorem n_q2 {a b c : Nat} (ha : a < 256) (hb : b < 256) : (a + 256 * (b + 256 * c)) / 65536 = c := by omega
theorem n_q4 {a b c d e : Nat} (ha : a < 256) (hb : b < 256) (hc : c < 256) (hd : d < 256) : (a + 256 * (b + 256 * (c + 256 * (d + 256 * e)))) / 4294967296 = e := by omega
