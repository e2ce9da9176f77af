/-! the library's count of ones, step by step -/
def n_b1 (x : Int64) : Int64 := x - ((x.toUInt64 >>> (((1 : Int32)).toInt64.toUInt64 &&& Int64.toUInt64 63)).toInt64 &&& (6148914691236517205 : Int64))
def n_b2 (x : Int64) : Int64 := (x &&& (3689348814741910323 : Int64)) + ((x.toUInt64 >>> (((2 : Int32)).toInt64.toUInt64 &&& Int64.toUInt64 63)).toInt64 &&& (3689348814741910323 : Int64))
def n_b3 (x : Int64) : Int64 := (x + (x.toUInt64 >>> (((4 : Int32)).toInt64.toUInt64 &&& Int64.toUInt64 63)).toInt64) &&& (1085102592571150095 : Int64)
def n_b4 (x : Int64) : Int64 := x + (x.toUInt64 >>> (((8 : Int32)).toInt64.toUInt64 &&& Int64.toUInt64 63)).toInt64
def n_b5 (x : Int64) : Int64 := x + (x.toUInt64 >>> (((16 : Int32)).toInt64.toUInt64 &&& Int64.toUInt64 63)).toInt64
def n_b6 (x : Int64) : Int64 := x + (x.toUInt64 >>> (((32 : Int32)).toInt64.toUInt64 &&& Int64.toUInt64 63)).toInt64
theorem n_bc {post : Int32 → Prop} {v0 : Int64} (h : post ((n_b6 (n_b5 (n_b4 (n_b3 (n_b2 (n_b1 v0)))))).toInt32 &&& (127 : Int32))) : wJ13_bitCount_95d88 post v0 := h
theorem n_e1 {b c : Nat} (hb : b < 2 ^ 60) (h : (b / 2 &&& 6148914691236517205) ≤ b) (e : b - (b / 2 &&& 6148914691236517205) = c) : n_b1 (lN b) = lN c := by
  have h1 := wb_shr (n := b) (k := 1) (by omega) (by omega)
  rw [Nat.pow_one] at h1
  unfold n_b1
  rw [show ((1 : Int32)) = nI 1 from rfl, h1, show (6148914691236517205 : Int64) = lN 6148914691236517205 from rfl, wb_and (by omega) (by omega), lN_sub h, e]
theorem n_e2 {b c : Nat} (hb : b < 2 ^ 64) (e : (b &&& 3689348814741910323) + (b / 4 &&& 3689348814741910323) = c) : n_b2 (lN b) = lN c := by
  have h1 := wb_shr (n := b) (k := 2) hb (by omega)
  rw [show 2 ^ 2 = 4 from rfl] at h1
  unfold n_b2
  rw [show ((2 : Int32)) = nI 2 from rfl, h1, show (3689348814741910323 : Int64) = lN 3689348814741910323 from rfl, wb_and hb (by omega), wb_and (by omega) (by omega), lN_add, e]
theorem n_e3 {b c : Nat} (hb : b < 2 ^ 63) (e : ((b + b / 16) &&& 1085102592571150095) = c) : n_b3 (lN b) = lN c := by
  have h1 := wb_shr (n := b) (k := 4) (by omega) (by omega)
  rw [show 2 ^ 4 = 16 from rfl] at h1
  unfold n_b3
  rw [show ((4 : Int32)) = nI 4 from rfl, h1, show (1085102592571150095 : Int64) = lN 1085102592571150095 from rfl, lN_add, wb_and (by omega) (by omega), e]
theorem n_e4 {b : Nat} (hb : b < 2 ^ 64) : n_b4 (lN b) = lN (b + b / 256) := by
  have h1 := wb_shr (n := b) (k := 8) hb (by omega)
  rw [show 2 ^ 8 = 256 from rfl] at h1
  unfold n_b4
  rw [show ((8 : Int32)) = nI 8 from rfl, h1, lN_add]
theorem n_e5 {b : Nat} (hb : b < 2 ^ 64) : n_b5 (lN b) = lN (b + b / 65536) := by
  have h1 := wb_shr (n := b) (k := 16) hb (by omega)
  rw [show 2 ^ 16 = 65536 from rfl] at h1
  unfold n_b5
  rw [show ((16 : Int32)) = nI 16 from rfl, h1, lN_add]
theorem n_e6 {b : Nat} (hb : b < 2 ^ 64) : n_b6 (lN b) = lN (b + b / 4294967296) := by
  have h1 := wb_shr (n := b) (k := 32) hb (by omega)
  rw [show 2 ^ 32 = 4294967296 from rfl] at h1
  unfold n_b6
  rw [show ((32 : Int32)) = nI 32 from rfl, h1, lN_add]
theorem n_e7 (n : Nat) : nI n &&& (127 : Int32) = nI (n % 128) := by
  refine Int32.toBitVec_inj.mp ?_
  rw [Int32.toBitVec_and]
  show BitVec.ofNat 32 n &&& BitVec.ofNat 32 127 = BitVec.ofNat 32 (n % 128)
  refine BitVec.eq_of_toNat_eq ?_
  rw [BitVec.toNat_and, BitVec.toNat_ofNat, BitVec.toNat_ofNat, BitVec.toNat_ofNat, show 127 % 2 ^ 32 = 2 ^ 7 - 1 from rfl, Nat.and_two_pow_sub_one_eq_mod]
  omega
/-- eight digits -/
def n_v (a b c d e f g h : Nat) : Nat := a + 256 * (b + 256 * (c + 256 * (d + 256 * (e + 256 * (f + 256 * (g + 256 * h))))))
theorem n_v1 {a b c d e f g h : Nat} (ha : a < 256) : n_v a b c d e f g h + n_v a b c d e f g h / 256 = n_v (a + b) (b + c) (c + d) (d + e) (e + f) (f + g) (g + h) h := by
  have h1 : n_v a b c d e f g h / 256 = b + 256 * (c + 256 * (d + 256 * (e + 256 * (f + 256 * (g + 256 * h))))) := n_q1 ha
  rw [h1]
  unfold n_v
  omega
theorem n_v2 {a b c d e f g h : Nat} (ha : a < 256) (hb : b < 256) : n_v a b c d e f g h + n_v a b c d e f g h / 65536 = n_v (a + c) (b + d) (c + e) (d + f) (e + g) (f + h) g h := by
  have h1 : n_v a b c d e f g h / 65536 = c + 256 * (d + 256 * (e + 256 * (f + 256 * (g + 256 * h)))) := n_q2 ha hb
  rw [h1]
  unfold n_v
  omega
theorem n_v3 {a b c d e f g h : Nat} (ha : a < 256) (hb : b < 256) (hc : c < 256) (hd : d < 256) : (n_v a b c d e f g h + n_v a b c d e f g h / 4294967296) % 128 = (a + e) % 128 := by
  have h1 : n_v a b c d e f g h / 4294967296 = e + 256 * (f + 256 * (g + 256 * h)) := n_q4 ha hb hc hd
  rw [h1]
  unfold n_v
  omega
theorem n_vlt {a b c d e f g h : Nat} (ha : a < 128) (hb : b < 128) (hc : c < 128) (hd : d < 128) (he : e < 128) (hf : f < 128) (hg : g < 128) (hh : h < 128) : n_v a b c d e f g h < 2 ^ 63 := by
  unfold n_v
  omega
theorem n_digs {b : Nat} (hb : b < 2 ^ 60) : ∃ l : List Nat, (∀ y ∈ l, y < 256) ∧ l.length = 8 ∧ n_val l = b := by
  refine ⟨[b % 256, b / 256 % 256, b / 256 / 256 % 256, b / 256 / 256 / 256 % 256, b / 256 / 256 / 256 / 256 % 256, b / 256 / 256 / 256 / 256 / 256 % 256, b / 256 / 256 / 256 / 256 / 256 / 256 % 256, b / 256 / 256 / 256 / 256 / 256 / 256 / 256], fun y hy => ?_, rfl, ?_⟩
  · simp only [List.mem_cons, List.not_mem_nil, or_false] at hy
    have h9 : b / 256 / 256 / 256 / 256 / 256 / 256 / 256 < 256 := by omega
    rcases hy with h | h | h | h | h | h | h | h
    · rw [h]; exact Nat.mod_lt _ (by omega)
    · rw [h]; exact Nat.mod_lt _ (by omega)
    · rw [h]; exact Nat.mod_lt _ (by omega)
    · rw [h]; exact Nat.mod_lt _ (by omega)
    · rw [h]; exact Nat.mod_lt _ (by omega)
    · rw [h]; exact Nat.mod_lt _ (by omega)
    · rw [h]; exact Nat.mod_lt _ (by omega)
    · rw [h]; exact h9
  · have h9 : ∀ x : Nat, x % 256 + 256 * (x / 256) = x := fun x => Nat.mod_add_div x 256
    simp only [n_val, Nat.mul_zero, Nat.add_zero, h9]
theorem n_sum {b : Nat} {l : List Nat} (hl : ∀ y ∈ l, y < 256) (hlen : l.length = 8) (hv : n_val l = b) : ∃ d0 d1 d2 d3 d4 d5 d6 d7, (d0 ≤ 15 ∧ d1 ≤ 15 ∧ d2 ≤ 15 ∧ d3 ≤ 15 ∧ d4 ≤ 15 ∧ d5 ≤ 15 ∧ d6 ≤ 15 ∧ d7 ≤ 15) ∧ n_val (((l.map n_g1).map n_g2).map n_g3) = n_v d0 d1 d2 d3 d4 d5 d6 d7 ∧ z_many (z_on b) 64 = d0 + d1 + d2 + d3 + d4 + d5 + d6 + d7 := by
  match l, hlen, hl, hv with
  | [y0, y1, y2, y3, y4, y5, y6, y7], _, hl, hv =>
    have g0 := hl y0 (by simp)
    have g1 := hl y1 (by simp)
    have g2 := hl y2 (by simp)
    have g3 := hl y3 (by simp)
    have g4 := hl y4 (by simp)
    have g5 := hl y5 (by simp)
    have g6 := hl y6 (by simp)
    have g7 := hl y7 (by simp)
    have le : ∀ y, n_g3 y ≤ 15 := fun y => Nat.and_le_right
    have hc : z_many (z_on b) 64 = z_many (z_on y0) 8 + (z_many (z_on y1) 8 + (z_many (z_on y2) 8 + (z_many (z_on y3) 8 + (z_many (z_on y4) 8 + (z_many (z_on y5) 8 + (z_many (z_on y6) 8 + (z_many (z_on y7) 8 + z_many (z_on 0) 0))))))) := by
      have e0 : b = y0 + 256 * (y1 + 256 * (y2 + 256 * (y3 + 256 * (y4 + 256 * (y5 + 256 * (y6 + 256 * (y7 + 256 * 0))))))) := hv.symm
      rw [e0, show 64 = 8 + (8 + (8 + (8 + (8 + (8 + (8 + (8 + 0))))))) from rfl, n_ones g0, n_ones g1, n_ones g2, n_ones g3, n_ones g4, n_ones g5, n_ones g6, n_ones g7]
    have hz : z_many (z_on 0) 0 = 0 := rfl
    refine ⟨n_g3 (n_g2 (n_g1 y0)), n_g3 (n_g2 (n_g1 y1)), n_g3 (n_g2 (n_g1 y2)), n_g3 (n_g2 (n_g1 y3)), n_g3 (n_g2 (n_g1 y4)), n_g3 (n_g2 (n_g1 y5)), n_g3 (n_g2 (n_g1 y6)), n_g3 (n_g2 (n_g1 y7)), ⟨le _, le _, le _, le _, le _, le _, le _, le _⟩, ?_, ?_⟩
    · simp only [List.map_cons, List.map_nil, n_val, n_v, Nat.mul_zero, Nat.add_zero]
    · rw [n_d4 y0 g0, n_d4 y1 g1, n_d4 y2 g2, n_d4 y3 g3, n_d4 y4 g4, n_d4 y5 g5, n_d4 y6 g6, n_d4 y7 g7, hc, hz]
      omega
theorem n_h60 {b : Nat} (hb : b < 2 ^ 60) : z_many (z_on b) 64 = z_many (z_on b) 60 := by
  rw [show 64 = 60 + 4 from rfl, z_many_add]
  have : z_many (fun j => z_on b (60 + j)) 4 = z_many (fun _ => false) 4 := z_many_congr (fun j _ => by
    unfold z_on
    rw [Nat.div_eq_of_lt (Nat.lt_of_lt_of_le hb (z_pow_le (by omega)))]
    rfl)
  rw [this]
  rfl
theorem s13_bitCount {b : Nat} {post : Int32 → Prop} (hb : b < 2 ^ 60) (hk : post (nI (z_many (z_on b) 60))) : wJ13_bitCount_95d88 post (lN b) := by
  obtain ⟨l, hl, hlen, hv⟩ := n_digs hb
  obtain ⟨a1, a2⟩ := n_s1 hl
  have h1 : ∀ y ∈ l.map n_g1, y < 256 := fun y hy => by
    obtain ⟨x, hx, rfl⟩ := List.mem_map.mp hy
    exact (n_d1 x (hl x hx) 0 (by omega)).2.2
  have a3 := n_s2 h1
  have h2 : ∀ y ∈ (l.map n_g1).map n_g2, y % 16 ≤ 4 ∧ y ≤ 68 := fun y hy => by
    obtain ⟨x, hx, rfl⟩ := List.mem_map.mp hy
    obtain ⟨z, hz, rfl⟩ := List.mem_map.mp hx
    exact n_d2' z (hl z hz)
  have a4 := n_s3 h2
  obtain ⟨d0, d1, d2, d3, d4, d5, d6, d7, ⟨q0, q1, q2, q3, q4, q5, q6, q7⟩, e1, e2⟩ := n_sum hl hlen hv
  rw [e1] at a4
  rw [List.length_map] at a3 a4
  rw [List.length_map] at a4
  rw [hlen] at a1 a2 a3 a4
  rw [hv] at a1 a2
  rw [show n_rep 85 8 = 6148914691236517205 from rfl] at a1 a2
  rw [show n_rep 51 8 = 3689348814741910323 from rfl] at a3
  rw [show n_rep 15 8 = 1085102592571150095 from rfl] at a4
  have hB : n_val (l.map n_g1) < 2 ^ 60 := by rw [← a2]; omega
  have hM : ∀ x, (x &&& 3689348814741910323) ≤ 3689348814741910323 := fun x => Nat.and_le_right
  have hC : n_val ((l.map n_g1).map n_g2) < 2 ^ 63 := by
    rw [← a3]
    have k1 := hM (n_val (l.map n_g1))
    have k2 := hM (n_val (l.map n_g1) / 4)
    omega
  have v1 := n_v1 (a := d0) (b := d1) (c := d2) (d := d3) (e := d4) (f := d5) (g := d6) (h := d7) (by omega)
  have v2 := n_v2 (a := d0 + d1) (b := d1 + d2) (c := d2 + d3) (d := d3 + d4) (e := d4 + d5) (f := d5 + d6) (g := d6 + d7) (h := d7) (by omega) (by omega)
  have v3 := n_v3 (a := d0 + d1 + (d2 + d3)) (b := d1 + d2 + (d3 + d4)) (c := d2 + d3 + (d4 + d5)) (d := d3 + d4 + (d5 + d6)) (e := d4 + d5 + (d6 + d7)) (f := d5 + d6 + d7) (g := d6 + d7) (h := d7) (by omega) (by omega) (by omega) (by omega)
  have l0 := n_vlt (a := d0) (b := d1) (c := d2) (d := d3) (e := d4) (f := d5) (g := d6) (h := d7) (by omega) (by omega) (by omega) (by omega) (by omega) (by omega) (by omega) (by omega)
  have l1 := n_vlt (a := d0 + d1) (b := d1 + d2) (c := d2 + d3) (d := d3 + d4) (e := d4 + d5) (f := d5 + d6) (g := d6 + d7) (h := d7) (by omega) (by omega) (by omega) (by omega) (by omega) (by omega) (by omega) (by omega)
  have l2 := n_vlt (a := d0 + d1 + (d2 + d3)) (b := d1 + d2 + (d3 + d4)) (c := d2 + d3 + (d4 + d5)) (d := d3 + d4 + (d5 + d6)) (e := d4 + d5 + (d6 + d7)) (f := d5 + d6 + d7) (g := d6 + d7) (h := d7) (by omega) (by omega) (by omega) (by omega) (by omega) (by omega) (by omega) (by omega)
  refine n_bc ?_
  rw [n_e1 hb a1 a2, n_e2 (by omega) a3, n_e3 hC a4, n_e4 (by omega), v1, n_e5 (by omega), v2, n_e6 (by omega), lN_i, n_e7, v3]
  have hs : (d0 + d1 + (d2 + d3) + (d4 + d5 + (d6 + d7))) % 128 = z_many (z_on b) 60 := by
    rw [← n_h60 hb, e2]
    omega
  rw [hs]
  exact hk
