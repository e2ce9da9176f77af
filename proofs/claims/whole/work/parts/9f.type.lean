/-! the text, the fault, shelves -/
/-- a byte as an int -/
def z_b8 (u : Nat) : Int32 := (Int8.ofNat u).toInt32
theorem b8_0 : ∀ u, u < 256 → (z_b8 u = 0 ↔ u = 0) := by decide +kernel
theorem b8_of (m : Nat) : (nI m).toInt8.toInt32 = z_b8 (m % 256) := by
  have e : (nI m).toInt8 = Int8.ofNat (m % 256) := by
    refine Int8.toBitVec_inj.mp ?_
    rw [Int32.toBitVec_toInt8, BitVec.signExtend_eq_setWidth_of_le _ (by omega)]
    refine BitVec.eq_of_toNat_eq ?_
    show ((BitVec.ofNat 32 m).setWidth 8).toNat = (BitVec.ofNat 8 (m % 256)).toNat
    rw [BitVec.toNat_setWidth, BitVec.toNat_ofNat, BitVec.toNat_ofNat]
    omega
  rw [e]
  rfl
theorem b8_vp {u : Nat} (h : u < 256) : vp_nar .byte (z_b8 u) = z_b8 u := by
  have e := b8_of u
  rw [Nat.mod_eq_of_lt h] at e
  rw [← e, pk_vb]
theorem wb_self (x : Int64) : x = lN x.toBitVec.toNat := wb_inj (by rw [wb_tb]; simp)
theorem wb_sarB {n s : Nat} (hn : n < 2 ^ 64) (hs : s ≤ 56) : (lN n >>> ((nI s).toInt64 &&& 63)).toBitVec.toNat % 256 = n / 2 ^ s % 256 := by
  have e : ((BitVec.ofNat 64 n).sshiftRight s).setWidth 8 = ((BitVec.ofNat 64 n) >>> s).setWidth 8 := by
    refine BitVec.eq_of_getLsbD_eq (fun i hi => ?_)
    rw [BitVec.getLsbD_setWidth, BitVec.getLsbD_setWidth, BitVec.getLsbD_sshiftRight, BitVec.getLsbD_ushiftRight, if_pos (by omega), decide_eq_false (show ¬ 64 ≤ i by omega)]
    rfl
  have h := congrArg BitVec.toNat e
  rw [BitVec.toNat_setWidth, BitVec.toNat_setWidth, BitVec.toNat_ushiftRight, BitVec.toNat_ofNat, Nat.mod_eq_of_lt hn, Nat.shiftRight_eq_div_pow] at h
  rw [wb_c s (by omega), Int64.toBitVec_shiftRight, wb_tb, wb_tb, wb_sm s (by omega), BitVec.sshiftRight_eq', BitVec.toNat_ofNat, Nat.mod_eq_of_lt (show s < 2 ^ 64 by omega)]
  exact h
/-- the k-th byte of a long -/
def z_by (n k : Nat) : Nat := n / 2 ^ (56 - 8 * k) % 256
theorem z_by_lt (n k : Nat) : z_by n k < 256 := Nat.mod_lt _ (by omega)
theorem s6_byteAt {n k : Nat} {post : Int32 → Prop} (hn : n < 2 ^ 64) (hk : k < 8) (h : post (z_b8 (z_by n k))) : wX6_byteAt post (lN n) (nI k) := by
  unfold wX6_byteAt
  rw [show (8 : Int32) = nI 8 from rfl, show (56 : Int32) = nI 56 from rfl, nI_mul, nI_sub (by omega), wb_shr hn (by omega), lN_i]
  refine ⟨pk_nb _, ?_⟩
  rw [b8_of]
  exact h
theorem y_byte {n k : Nat} (hn : n < 2 ^ 64) (hk : k < 8) : ((lN n >>> (((56 : Int32) - (8 : Int32) * nI k).toInt64 &&& 63)).toInt32).toInt8.toInt32 = z_b8 (z_by n k) ∧ (((lN n >>> (((56 : Int32) - (8 : Int32) * nI k).toInt64 &&& 63)) &&& (255 : Int64)) = 0 ↔ z_by n k = 0) := by
  rw [show (8 : Int32) = nI 8 from rfl, show (56 : Int32) = nI 56 from rfl, nI_mul, nI_sub (by omega)]
  have h := wb_sarB (s := 56 - 8 * k) hn (by omega)
  generalize lN n >>> ((nI (56 - 8 * k)).toInt64 &&& 63) = x at h
  have hx := wb_self x
  have hlt : x.toBitVec.toNat < 2 ^ 64 := x.toBitVec.isLt
  generalize x.toBitVec.toNat = y at h hx hlt
  subst hx
  refine ⟨?_, ?_⟩
  · rw [lN_i, b8_of, h]
    rfl
  · rw [show (255 : Int64) = lN (2 ^ 8 - 1) from rfl, wb_mask hlt (by omega), show (0 : Int64) = lN 0 from rfl, pk_lEQ (by omega) (by omega)]
    show y % 256 = 0 ↔ n / 2 ^ (56 - 8 * k) % 256 = 0
    rw [h]
/-- how many bytes come -/
def z_lead (n : Nat) : Nat → Nat → Nat
  | 0, k => k
  | r + 1, k => if z_by n k = 0 then k else z_lead n r (k + 1)
theorem z_lead_le {n : Nat} : ∀ {r k : Nat}, k ≤ z_lead n r k ∧ z_lead n r k ≤ k + r
  | 0, k => ⟨Nat.le_refl _, Nat.le_refl _⟩
  | r + 1, k => by
    unfold z_lead
    split
    · exact ⟨Nat.le_refl _, by omega⟩
    · have := z_lead_le (n := n) (r := r) (k := k + 1)
      omega
def z_ty (u : Nat → Nat) (len n : Nat) : Nat → Nat := fun i => if i < len then u i else z_by n (i - len)
def x_tx (u : Nat → Nat) (len : Nat) (tl : Int32) (tt : Nat → Int32) : Prop := tl = nI len ∧ len ≤ 600 ∧ ∀ k, k < len → u k < 256 ∧ tt k = z_b8 (u k)
theorem s6_type_42 {u : Nat → Nat} {len n m : Nat} {post : Int32 → Int32 → (Nat → Int32) → Prop} (hn : n < 2 ^ 64) (hm : m ≤ 8) (hl : len + m ≤ 600) (h1 : ∀ tt', x_tx (z_ty u len n) (len + m) (nI (len + m)) tt' → post (nI (len + m)) (nI (len + m)) tt') :
    ∀ (r k : Nat) (tt : Nat → Int32), k + r = m → (∀ i, i < len + k → z_ty u len n i < 256 ∧ tt i = z_b8 (z_ty u len n i)) → wX6_type_42 post (r + 1) (nI len) tt (lN n) (nI m) (nI k) := by
  intro r
  induction r with
  | zero =>
    intro k tt hk ht
    have e : k = m := by omega
    subst e
    refine ⟨fun _ => ?_, fun g => ?_⟩
    · rw [nI_add]
      exact h1 tt ⟨rfl, hl, ht⟩
    · rw [nI_leI (by omega) (by omega)] at g
      omega
  | succ r ih =>
    intro k tt hk ht
    refine ⟨fun g => ?_, fun _ => ?_⟩
    · rw [nI_leI (by omega) (by omega)] at g
      omega
    · refine s6_byteAt hn (by omega) ?_
      unfold wX6_type_71
      rw [nI_add, nI_clamp (by omega), b8_vp (z_by_lt _ _), show (1 : Int32) = nI 1 from rfl, nI_add]
      refine ⟨vp_in_nI (by omega) (by omega), ih (k + 1) _ (by omega) (fun i hi => ?_)⟩
      by_cases e : i = len + k
      · subst e
        rw [pk_us]
        have : z_ty u len n (len + k) = z_by n k := by unfold z_ty; rw [if_neg (by omega)]; congr 1; omega
        rw [this]
        exact ⟨z_by_lt _ _, rfl⟩
      · rw [pk_un e]
        exact ht i (by omega)
theorem z_ty_0 {u : Nat → Nat} {len n : Nat} {tl : Int32} {tt : Nat → Int32} (hx : x_tx u len tl tt) : ∀ i, i < len → z_ty u len n i < 256 ∧ tt i = z_b8 (z_ty u len n i) := fun i hi => by
  have : z_ty u len n i = u i := by unfold z_ty; rw [if_pos hi]
  rw [this]
  exact hx.2.2 i hi
theorem s6_type {u : Nat → Nat} {len n : Nat} {tl : Int32} {tt : Nat → Int32} {post : Int32 → Int32 → (Nat → Int32) → Prop} (hn : n < 2 ^ 64) (hx : x_tx u len tl tt)
    (h1 : len + z_lead n 8 0 ≤ 600 → ∀ tt', x_tx (z_ty u len n) (len + z_lead n 8 0) (nI (len + z_lead n 8 0)) tt' → post (nI (len + z_lead n 8 0)) (nI (len + z_lead n 8 0)) tt') (h0 : ¬ len + z_lead n 8 0 ≤ 600 → post (-1) tl tt) :
    wX6_type post tl tt (lN n) := by
  have hm := (z_lead_le (n := n) (r := 8) (k := 0)).2
  have hll := hx.2.1
  have hty := z_ty_0 (n := n) hx
  obtain ⟨rfl, -, -⟩ := hx
  generalize hM : z_lead n 8 0 = m at h1 h0 hm
  have hfin : wX6_type_22 post (nI len) tt (lN n) (nI m) := by
    unfold wX6_type_22
    rw [nI_add, show (600 : Int32) = nI 600 from rfl, nI_leI (by omega) (by omega)]
    refine ⟨fun g => ⟨_, s6_type_42 hn (by omega) g (h1 g) m 0 tt (by omega) hty⟩, h0⟩
  have key : ∀ (r k : Nat), k + r = 8 → z_lead n r k = m → wX6_type_2 post (r + 1) (nI len) tt (lN n) (nI k) := by
    intro r
    induction r with
    | zero =>
      intro k hk e
      have e' : k = m := e
      subst e'
      refine ⟨fun _ => hfin, fun g => ?_⟩
      rw [show (8 : Int32) = nI 8 from rfl, nI_leI (by omega) (by omega)] at g
      omega
    | succ r ih =>
      intro k hk e
      refine ⟨fun g => ?_, fun _ => ?_⟩
      · rw [show (8 : Int32) = nI 8 from rfl, nI_leI (by omega) (by omega)] at g
        omega
      · refine s6_byteAt hn (by omega) ?_
        unfold z_lead at e
        refine ⟨fun g => ?_, fun g => ?_⟩
        · rw [b8_0 _ (z_by_lt _ _)] at g
          rw [if_pos g] at e
          subst e
          exact hfin
        · rw [b8_0 _ (z_by_lt _ _)] at g
          rw [if_neg g] at e
          rw [show (1 : Int32) = nI 1 from rfl, nI_add]
          exact ih (k + 1) (by omega) e
  exact ⟨_, key 8 0 rfl hM⟩
theorem s7_type_57 {u : Nat → Nat} {len n m : Nat} {post : Int32 → Int32 → (Nat → Int32) → (Nat → Int32) → Prop} {all0 tt0 : Nat → Int32} (hn : n < 2 ^ 64) (hm : m ≤ 8) (hl : len + m ≤ 600) (h1 : ∀ all' tt', (∀ j, j ≠ 124 → all' j = all0 j) → (∀ j, len + m ≤ j → tt' j = tt0 j) → x_tx (z_ty u len n) (len + m) (all' 124) tt' → post (nI (len + m)) 0 all' tt') :
    ∀ (r k : Nat) (all tt : Nat → Int32), k + r = m → all 124 = nI (len + k) → (∀ j, j ≠ 124 → all j = all0 j) → (∀ j, len + k ≤ j → tt j = tt0 j) → (∀ i, i < len + k → z_ty u len n i < 256 ∧ tt i = z_b8 (z_ty u len n i)) → wX7_type_57 post (r + 1) 0 all tt (lN n) (nI m) (nI k) := by
  have e124 : ((124 : Int32)).toNatClampNeg = 124 := rfl
  intro r
  induction r with
  | zero =>
    intro k all tt hk ha ha2 ht2 ht
    have e : k = m := by omega
    subst e
    refine ⟨fun _ => ?_, fun g => ?_⟩
    · rw [e124, ha]
      exact h1 all tt ha2 ht2 ⟨ha, hl, ht⟩
    · rw [nI_leI (by omega) (by omega)] at g
      omega
  | succ r ih =>
    intro k all tt hk ha ha2 ht2 ht
    refine ⟨fun g => ?_, fun _ => ?_⟩
    · rw [nI_leI (by omega) (by omega)] at g
      omega
    · rw [e124, ha, nI_clamp (by omega), (y_byte hn (by omega)).1, b8_vp (z_by_lt _ _), show (1 : Int32) = nI 1 from rfl, nI_add, nI_add]
      refine ⟨vp_in_nI (by omega) (by omega), ih (k + 1) _ _ (by omega) (by exact pk_us) (fun j hj => by rw [pk_un hj]; exact ha2 j hj) (fun j hj => by rw [pk_un (by omega)]; exact ht2 j (by omega)) (fun i hi => ?_)⟩
      by_cases e : i = len + k
      · subst e
        rw [pk_us]
        have : z_ty u len n (len + k) = z_by n k := by unfold z_ty; rw [if_neg (by omega)]; congr 1; omega
        rw [this]
        exact ⟨z_by_lt _ _, rfl⟩
      · rw [pk_un e]
        exact ht i (by omega)
theorem s7_type {u : Nat → Nat} {len n : Nat} {t_raised : Int32} {all tt : Nat → Int32} {post : Int32 → Int32 → (Nat → Int32) → (Nat → Int32) → Prop} (hn : n < 2 ^ 64) (hx : x_tx u len (all 124) tt)
    (h1 : len + z_lead n 8 0 ≤ 600 → ∀ all' tt', (∀ j, j ≠ 124 → all' j = all j) → (∀ j, len + z_lead n 8 0 ≤ j → tt' j = tt j) → x_tx (z_ty u len n) (len + z_lead n 8 0) (all' 124) tt' → post (nI (len + z_lead n 8 0)) 0 all' tt') (h0 : ¬ len + z_lead n 8 0 ≤ 600 → post (-1) 0 all tt) :
    wX7_type post t_raised all tt (lN n) := by
  have hm := (z_lead_le (n := n) (r := 8) (k := 0)).2
  have hll := hx.2.1
  have hty := z_ty_0 (n := n) hx
  have ha := hx.1
  have e124 : ((124 : Int32)).toNatClampNeg = 124 := rfl
  generalize hM : z_lead n 8 0 = m at h1 h0 hm
  have hfin : wX7_type_37 post 0 all tt (lN n) (nI m) := by
    unfold wX7_type_37
    rw [e124, ha, nI_add, show (600 : Int32) = nI 600 from rfl, nI_leI (by omega) (by omega)]
    refine ⟨fun g => ⟨_, s7_type_57 hn (by omega) g (h1 g) m 0 all tt (by omega) ha (fun _ _ => rfl) (fun _ _ => rfl) hty⟩, h0⟩
  have key : ∀ (r k : Nat), k + r = 8 → z_lead n r k = m → wX7_type_7 post (r + 1) 0 all tt (lN n) (nI k) := by
    intro r
    induction r with
    | zero =>
      intro k hk e
      have e' : k = m := e
      subst e'
      refine ⟨fun _ => hfin, fun g => ?_⟩
      rw [show (8 : Int32) = nI 8 from rfl, nI_leI (by omega) (by omega)] at g
      omega
    | succ r ih =>
      intro k hk e
      refine ⟨fun g => ?_, fun _ => ?_⟩
      · rw [show (8 : Int32) = nI 8 from rfl, nI_leI (by omega) (by omega)] at g
        omega
      · unfold z_lead at e
        refine ⟨fun g => ?_, fun g => ?_⟩
        · rw [(y_byte hn (by omega)).2] at g
          rw [if_pos g] at e
          subst e
          exact hfin
        · rw [(y_byte hn (by omega)).2] at g
          rw [if_neg g] at e
          rw [show (1 : Int32) = nI 1 from rfl, nI_add]
          exact ih (k + 1) (by omega) e
  exact ⟨_, key 8 0 rfl hM⟩
/-! fault -/
theorem s6_fault {a b : Int32} {post : Int32 → Prop} {v1 : Int32} (hk : post (if v1 = 0 then a else b)) : wX6_fault a b post v1 := by
  refine ⟨fun g => ?_, fun g => ?_⟩
  · rw [if_pos g] at hk; exact hk
  · rw [if_neg g] at hk; exact hk
theorem s7_fault {t_all : Nat → Int32} {a b : Int32} {post : Int32 → Int32 → Prop} {t_raised v1 : Int32} (ha : t_all 125 = a) (hb : t_all 126 = b) (hk : post (if v1 = 0 then a else b) 0) : wX7_fault t_all post t_raised v1 := by
  refine ⟨fun g => ?_, fun g => ?_⟩
  · rw [if_pos g] at hk
    rw [show ((125 : Int32)).toNatClampNeg = 125 from rfl, ha]
    exact hk
  · rw [if_neg g] at hk
    rw [show ((126 : Int32)).toNatClampNeg = 126 from rfl, hb]
    exact hk
/-! shelves -/
abbrev ZH : Type := Nat → Option (Int32 × Int32)
def x_sh (S : ZH) (sw sp : Nat → Int32) : Prop := ∀ k, k < 8 → (S k = none → sw k = -1 ∧ sp k = -1) ∧ (∀ a b, S k = some (a, b) → sw k = a ∧ sp k = b)
def y_sh (S : ZH) (t : Nat → Int32) : Prop := ∀ k, k < 8 → (S k = none → t (127 + 3 * k) = 0) ∧ (∀ a b, S k = some (a, b) → t (127 + 3 * k) = 1 ∧ t (128 + 3 * k) = a ∧ t (129 + 3 * k) = b)
def z_pl2 (v1 v2 : Int32) (i j : Nat) : Prop := v1 = nI i ∧ v2 = nI j ∧ i < 2 ∧ j < 4
theorem i_in {v : Int32} {n : Nat} (hn : n < 2 ^ 31) (a : ¬ v < 0) (b : ¬ nI n ≤ v) : ∃ e, v = nI e ∧ e < n := by
  rw [Int32.lt_iff_toInt_lt] at a
  rw [Int32.le_iff_toInt_le, nI_toInt hn] at b
  have a' : ¬ v.toInt < 0 := a
  refine ⟨v.toInt.toNat, ?_, by omega⟩
  rw [← Int32.toInt_inj, nI_toInt (by omega)]
  omega
theorem s6_isShelfPlace {v0 v1 : Int32} {post : Int32 → Prop} (h1 : ∀ i j, z_pl2 v0 v1 i j → post 1) (h0 : (¬ ∃ i j, z_pl2 v0 v1 i j) → post 0) : wX6_isShelfPlace post v0 v1 := by
  have n0 : ∀ e : Nat, e < 2 ^ 31 → ¬ nI e < 0 := fun e he => nI_nlt (b := 0) (Nat.zero_le _) he
  unfold wX6_isShelfPlace
  refine ⟨fun g => h0 ?_, fun g => ⟨fun g2 => h0 ?_, fun g2 => ⟨fun g3 => h0 ?_, fun g3 => ⟨fun g4 => h0 ?_, fun g4 => ?_⟩⟩⟩⟩
  · rintro ⟨i, j, rfl, rfl, hi, hj⟩
    exact n0 i (by omega) g
  · rintro ⟨i, j, rfl, rfl, hi, hj⟩
    rw [show (2 : Int32) = nI 2 from rfl, nI_leI (by omega) (by omega)] at g2
    omega
  · rintro ⟨i, j, rfl, rfl, hi, hj⟩
    exact n0 j (by omega) g3
  · rintro ⟨i, j, rfl, rfl, hi, hj⟩
    rw [show (4 : Int32) = nI 4 from rfl, nI_leI (by omega) (by omega)] at g4
    omega
  · obtain ⟨i, e1, hi⟩ := i_in (n := 2) (by omega) g g2
    obtain ⟨j, e2, hj⟩ := i_in (n := 4) (by omega) g3 g4
    exact h1 i j ⟨e1, e2, hi, hj⟩
theorem s7_isShelf {v0 v1 : Int32} {post : Int32 → Prop} (h1 : ∀ i j, z_pl2 v0 v1 i j → post 1) (h0 : (¬ ∃ i j, z_pl2 v0 v1 i j) → post 0) : wX7_isShelf post v0 v1 := by
  unfold wX7_isShelf
  refine s7_inI (a := 0) (b := 1) (by omega) (by omega) (fun i e1 _ hi => ?_) (fun h => ?_)
  · unfold wX7_isShelf_7
    refine ⟨fun z => absurd z (by decide), fun _ => ?_⟩
    refine s7_inI (a := 0) (b := 3) (by omega) (by omega) (fun j e2 _ hj => ?_) (fun h => ?_)
    · exact ⟨fun z => absurd z (by decide), fun _ => h1 i j ⟨e1, e2, by omega, by omega⟩⟩
    · exact ⟨fun _ => h0 (fun ⟨i, j, _, e2, _, hj⟩ => h ⟨j, e2, by omega, by omega⟩), fun z => absurd rfl z⟩
  · exact ⟨fun _ => h0 (fun ⟨i, j, e1, _, hi, _⟩ => h ⟨i, e1, by omega, by omega⟩), fun z => absurd rfl z⟩
def z_shv (S : ZH) (i j : Nat) (v3 : Int32) : Int32 := match S (4 * i + j) with
  | none => -1
  | some (a, b) => if v3 = 0 then a else b
def z_shd (S : ZH) (v1 v2 v3 : Int32) (r : Int32) : Prop := (∃ i j, z_pl2 v1 v2 i j ∧ r = z_shv S i j v3) ∨ (¬ (∃ i j, z_pl2 v1 v2 i j) ∧ r = -1)
theorem z_pl2_un {v1 v2 : Int32} {i j i' j' : Nat} (h : z_pl2 v1 v2 i j) (h' : z_pl2 v1 v2 i' j') : i = i' ∧ j = j' := by
  obtain ⟨a, b, c, d⟩ := h
  obtain ⟨a', b', c', d'⟩ := h'
  exact ⟨(nI_eq (by omega) (by omega)).mp (a.symm.trans a'), (nI_eq (by omega) (by omega)).mp (b.symm.trans b')⟩
theorem z_shd_un {S : ZH} {v1 v2 v3 a b : Int32} (ha : z_shd S v1 v2 v3 a) (hb : z_shd S v1 v2 v3 b) : a = b := by
  rcases ha with ⟨i, j, h1, r1⟩ | ⟨n1, r1⟩
  · rcases hb with ⟨i', j', h2, r2⟩ | ⟨n2, r2⟩
    · obtain ⟨e1, e2⟩ := z_pl2_un h1 h2
      rw [r1, r2, e1, e2]
    · exact absurd ⟨i, j, h1⟩ n2
  · rcases hb with ⟨i', j', h2, r2⟩ | ⟨n2, r2⟩
    · exact absurd ⟨i', j', h2⟩ n1
    · rw [r1, r2]
theorem s6_shelved {S : ZH} {t_now_shelfProfits t_now_shelfWeights : Nat → Int32} {post : Int32 → Prop} {v1 v2 v3 : Int32} (hS : x_sh S t_now_shelfWeights t_now_shelfProfits) (hk : ∀ r, z_shd S v1 v2 v3 r → post r) : wX6_shelved t_now_shelfProfits t_now_shelfWeights post v1 v2 v3 := by
  unfold wX6_shelved
  refine s6_isShelfPlace (fun i j h => ?_) (fun h => ?_)
  · have hr := hk (z_shv S i j v3) (Or.inl ⟨i, j, h, rfl⟩)
    obtain ⟨rfl, rfl, hi, hj⟩ := h
    obtain ⟨q1, q2⟩ := hS (4 * i + j) (by omega)
    unfold z_shv at hr
    unfold wX6_shelved_5
    rw [show (4 : Int32) = nI 4 from rfl, nI_mul, nI_add, Nat.mul_comm i 4, nI_clamp (by omega)]
    refine ⟨fun z => absurd z (by decide), fun _ => ⟨fun g => ⟨vp_in_nI (by omega) (by omega), ?_⟩, fun g => ⟨vp_in_nI (by omega) (by omega), ?_⟩⟩⟩
    · cases e : S (4 * i + j) with
      | none => rw [e] at hr; rw [(q1 e).1]; exact hr
      | some ab =>
        obtain ⟨a, b⟩ := ab
        rw [e] at hr
        rw [(q2 a b e).1]
        have hr' : post (if v3 = 0 then a else b) := hr
        rw [if_pos g] at hr'
        exact hr'
    · cases e : S (4 * i + j) with
      | none => rw [e] at hr; rw [(q1 e).2]; exact hr
      | some ab =>
        obtain ⟨a, b⟩ := ab
        rw [e] at hr
        rw [(q2 a b e).2]
        have hr' : post (if v3 = 0 then a else b) := hr
        rw [if_neg g] at hr'
        exact hr'
  · unfold wX6_shelved_5
    exact ⟨fun _ => hk _ (Or.inr ⟨h, rfl⟩), fun z => absurd rfl z⟩
theorem s7_shelved {S : ZH} {t_all : Nat → Int32} {post : Int32 → Int32 → Prop} {t_raised v1 v2 v3 : Int32} (hS : y_sh S t_all) (hk : ∀ (r t_raised' : Int32), z_shd S v1 v2 v3 r → t_raised' = 0 → post r t_raised') : wX7_shelved t_all post t_raised v1 v2 v3 := by
  unfold wX7_shelved
  refine s7_isShelf (fun i j h => ?_) (fun h => ?_)
  · have hr := hk (z_shv S i j v3) 0 (Or.inl ⟨i, j, h, rfl⟩) rfl
    obtain ⟨rfl, rfl, hi, hj⟩ := h
    obtain ⟨q1, q2⟩ := hS (4 * i + j) (by omega)
    unfold z_shv at hr
    unfold wX7_shelved_10 wX7_shelved_56
    rw [show (4 : Int32) = nI 4 from rfl, show (3 : Int32) = nI 3 from rfl, show (127 : Int32) = nI 127 from rfl, nI_mul, nI_add, nI_mul, nI_add, nI_clamp (by omega)]
    refine ⟨fun z => absurd z (by decide), fun _ => ⟨vp_in_nI (by omega) (by omega), fun g => ?_, fun g => ⟨fun g2 => ?_, fun g2 => ?_⟩⟩⟩
    · cases e : S (4 * i + j) with
      | none => rw [e] at hr; exact hr
      | some ab =>
        rw [(q2 ab.1 ab.2 e).1] at g
        exact absurd g (by decide)
    · cases e : S (4 * i + j) with
      | none => exact absurd (q1 e) g
      | some ab =>
        obtain ⟨a, b⟩ := ab
        rw [e] at hr
        have hr' : post (if v3 = 0 then a else b) 0 := hr
        rw [if_pos g2, ← (q2 a b e).2.1] at hr'
        rw [show (1 : Int32) = nI 1 from rfl, nI_add, nI_clamp (by omega), show 127 + 3 * (4 * i + j) + 1 = 128 + 3 * (4 * i + j) by omega]
        exact ⟨vp_in_nI (by omega) (by omega), hr'⟩
    · cases e : S (4 * i + j) with
      | none => exact absurd (q1 e) g
      | some ab =>
        obtain ⟨a, b⟩ := ab
        rw [e] at hr
        have hr' : post (if v3 = 0 then a else b) 0 := hr
        rw [if_neg g2, ← (q2 a b e).2.2] at hr'
        rw [show (2 : Int32) = nI 2 from rfl, nI_add, nI_clamp (by omega), show 127 + 3 * (4 * i + j) + 2 = 129 + 3 * (4 * i + j) by omega]
        exact ⟨vp_in_nI (by omega) (by omega), hr'⟩
  · unfold wX7_shelved_10
    exact ⟨fun _ => hk _ _ (Or.inr ⟨h, rfl⟩) rfl, fun z => absurd rfl z⟩
/-! shelve -/
/-- what is put there; none: there is no such thing -/
def z_thing (L : ZL) (d : ZC) (v3 v4 : Int32) (a b : Int32) : Prop :=
  (v3 = 0 ∧ ∃ e, v4 = nI e ∧ e < L.1 ∧ a = nI (L.2.1 e) ∧ b = nI (L.2.2.1 e)) ∨ (¬ v3 = 0 ∧ ∃ e, ∃ h : e < d.2.2.2.1.length, v4 = nI e ∧ a = nI (d.2.2.2.1[e]).1 ∧ b = nI (d.2.2.2.1[e]).2.1)
def z_shs (L : ZL) (d : ZC) (S : ZH) (v1 v2 v3 v4 : Int32) (r : Int32) (S' : ZH) : Prop :=
  (∃ i j a b, z_pl2 v1 v2 i j ∧ z_thing L d v3 v4 a b ∧ ((v3 = (if i = 1 then 1 else 0) ∧ r = 0 ∧ S' = (fun k => if k = 4 * i + j then some (a, b) else S k)) ∨ (¬ v3 = (if i = 1 then 1 else 0) ∧ r = -2 ∧ S' = S)))
  ∨ (¬ ((∃ i j, z_pl2 v1 v2 i j) ∧ ∃ a b, z_thing L d v3 v4 a b) ∧ r = -1 ∧ S' = S)
theorem z_thing_un {L : ZL} {d : ZC} {v3 v4 a b a' b' : Int32} (hl : L.1 ≤ 60) (hd : d.2.2.2.1.length ≤ 1000) (h : z_thing L d v3 v4 a b) (h' : z_thing L d v3 v4 a' b') : a = a' ∧ b = b' := by
  rcases h with ⟨z, e, e1, e2, e3, e4⟩ | ⟨z, e, e2, e1, e3, e4⟩
  · rcases h' with ⟨z', f, f1, f2, f3, f4⟩ | ⟨z', f, f2, f1, f3, f4⟩
    · have : e = f := (nI_eq (by omega) (by omega)).mp (e1.symm.trans f1)
      subst this
      exact ⟨e3.trans f3.symm, e4.trans f4.symm⟩
    · exact absurd z z'
  · rcases h' with ⟨z', f, f1, f2, f3, f4⟩ | ⟨z', f, f2, f1, f3, f4⟩
    · exact absurd z' z
    · have : e = f := (nI_eq (by omega) (by omega)).mp (e1.symm.trans f1)
      subst this
      exact ⟨e3.trans f3.symm, e4.trans f4.symm⟩
theorem z_shs_un {L : ZL} {d : ZC} {S : ZH} {v1 v2 v3 v4 r r' : Int32} {S1 S2 : ZH} (hl : L.1 ≤ 60) (hd : d.2.2.2.1.length ≤ 1000) (h : z_shs L d S v1 v2 v3 v4 r S1) (h' : z_shs L d S v1 v2 v3 v4 r' S2) : r = r' ∧ S1 = S2 := by
  rcases h with ⟨i, j, a, b, p1, t1, c1⟩ | ⟨n1, r1, s1⟩
  · rcases h' with ⟨i', j', a', b', p2, t2, c2⟩ | ⟨n2, r2, s2⟩
    · obtain ⟨e1, e2⟩ := z_pl2_un p1 p2
      obtain ⟨e3, e4⟩ := z_thing_un hl hd t1 t2
      subst e1 e2 e3 e4
      rcases c1 with ⟨g1, r1, s1⟩ | ⟨g1, r1, s1⟩
      · rcases c2 with ⟨g2, r2, s2⟩ | ⟨g2, r2, s2⟩
        · exact ⟨r1.trans r2.symm, s1.trans s2.symm⟩
        · exact absurd g1 g2
      · rcases c2 with ⟨g2, r2, s2⟩ | ⟨g2, r2, s2⟩
        · exact absurd g2 g1
        · exact ⟨r1.trans r2.symm, s1.trans s2.symm⟩
    · exact absurd ⟨⟨i, j, p1⟩, a, b, t1⟩ n2
  · rcases h' with ⟨i', j', a', b', p2, t2, c2⟩ | ⟨n2, r2, s2⟩
    · exact absurd ⟨⟨i', j', p2⟩, a', b', t2⟩ n1
    · exact ⟨r1.trans r2.symm, s1.trans s2.symm⟩
theorem x_sh_put {S : ZH} {sw sp : Nat → Int32} {k : Nat} {a b : Int32} (h : x_sh S sw sp) (hk : k < 8) : x_sh (fun q => if q = k then some (a, b) else S q) (upd sw k a) (upd sp k b) := by
  intro q hq
  by_cases e : q = k
  · subst e
    rw [pk_us, pk_us]
    refine ⟨fun g => ?_, fun x y g => ?_⟩
    · dsimp only at g
      rw [if_pos rfl] at g
      cases g
    · dsimp only at g
      rw [if_pos rfl] at g
      cases g
      exact ⟨rfl, rfl⟩
  · rw [pk_un e, pk_un e]
    obtain ⟨q1, q2⟩ := h q hq
    refine ⟨fun g => ?_, fun x y g => ?_⟩
    · dsimp only at g
      rw [if_neg e] at g
      exact q1 g
    · dsimp only at g
      rw [if_neg e] at g
      exact q2 x y g
theorem y_sh_put {S : ZH} {t : Nat → Int32} {k : Nat} {a b : Int32} (h : y_sh S t) (hk : k < 8) : y_sh (fun q => if q = k then some (a, b) else S q) (upd (upd (upd t (127 + 3 * k) 1) (128 + 3 * k) a) (129 + 3 * k) b) := by
  intro q hq
  by_cases e : q = k
  · subst e
    rw [pk_us, pk_un (show 127 + 3 * q ≠ 129 + 3 * q by omega), pk_un (show 127 + 3 * q ≠ 128 + 3 * q by omega), pk_us, pk_un (show 128 + 3 * q ≠ 129 + 3 * q by omega), pk_us]
    refine ⟨fun g => ?_, fun x y g => ?_⟩
    · dsimp only at g
      rw [if_pos rfl] at g
      cases g
    · dsimp only at g
      rw [if_pos rfl] at g
      cases g
      exact ⟨rfl, rfl, rfl⟩
  · rw [pk_un (show 127 + 3 * q ≠ 129 + 3 * k by omega), pk_un (show 127 + 3 * q ≠ 128 + 3 * k by omega), pk_un (show 127 + 3 * q ≠ 127 + 3 * k by omega), pk_un (show 128 + 3 * q ≠ 129 + 3 * k by omega), pk_un (show 128 + 3 * q ≠ 128 + 3 * k by omega), pk_un (show 128 + 3 * q ≠ 127 + 3 * k by omega), pk_un (show 129 + 3 * q ≠ 129 + 3 * k by omega), pk_un (show 129 + 3 * q ≠ 128 + 3 * k by omega), pk_un (show 129 + 3 * q ≠ 127 + 3 * k by omega)]
    obtain ⟨q1, q2⟩ := h q hq
    refine ⟨fun g => ?_, fun x y g => ?_⟩
    · dsimp only at g
      rw [if_neg e] at g
      exact q1 g
    · dsimp only at g
      rw [if_neg e] at g
      exact q2 x y g
theorem z_01 (i : Nat) (hi : i < 2) (x : Int32 → Prop) (h1 : nI i = 1 → x 1) (h0 : ¬ nI i = 1 → x 0) : x (if i = 1 then 1 else 0) := by
  by_cases e : i = 1
  · rw [if_pos e]
    exact h1 (by rw [e]; rfl)
  · rw [if_neg e]
    refine h0 (fun g => e ?_)
    rw [show (1 : Int32) = nI 1 from rfl, nI_eq (by omega) (by omega)] at g
    exact g
theorem nI_is1 {i : Nat} (hi : i < 2) : (nI i = 1 ↔ i = 1) := by
  rw [show (1 : Int32) = nI 1 from rfl, nI_eq (by omega) (by omega)]
theorem s6_shelve {L : ZL} {d : ZC} {S : ZH} {cap : Nat} {sw sp pr we : Nat → Int32} {post : Int32 → (Nat → Int32) → (Nat → Int32) → Prop} {hw hp : Nat → Int32} {v1 v2 v3 v4 : Int32} (hl : L.1 ≤ 60) (hcap : d.2.2.2.1.length ≤ cap) (hc : cap ≤ 2048) (hset : ∀ i (h : i < d.2.2.2.1.length), sw i = nI (d.2.2.2.1[i]).1 ∧ sp i = nI (d.2.2.2.1[i]).2.1) (hA : ∀ k, k < L.1 → we k = nI (L.2.1 k) ∧ pr k = nI (L.2.2.1 k)) (hS : x_sh S hw hp)
    (hk : ∀ r S' hw' hp', z_shs L d S v1 v2 v3 v4 r S' → x_sh S' hw' hp' → post r hw' hp') :
    wX6_shelve (nI d.2.2.2.1.length) (nI L.1) sw cap sp cap pr we post hw hp v1 v2 v3 v4 := by
  have main : ∀ i j a b, z_pl2 v1 v2 i j → z_thing L d v3 v4 a b → wX6_shelve_49 (nI d.2.2.2.1.length) (nI L.1) sw cap sp cap pr we post hw hp v1 v2 v3 v4 := by
    intro i j a b hp2 ht
    have hp3 := hp2
    obtain ⟨rfl, rfl, hi, hj⟩ := hp3
    have hat : nI i * (4 : Int32) + nI j = nI (4 * i + j) := by rw [show (4 : Int32) = nI 4 from rfl, nI_mul, nI_add, Nat.mul_comm i 4]
    have fin : ∀ q : Int32, q = (if i = 1 then 1 else 0) → wX6_shelve_60 (nI d.2.2.2.1.length) (nI L.1) sw cap sp cap pr we post hw hp (nI i) (nI j) v3 v4 v3 q := by
      intro q hq
      unfold wX6_shelve_60
      refine ⟨fun g => ?_, fun g => ?_⟩
      · have hkk := hk 0 _ _ _ (Or.inl ⟨i, j, a, b, hp2, ht, Or.inl ⟨g.trans hq, rfl, rfl⟩⟩) (x_sh_put (a := a) (b := b) hS (show 4 * i + j < 8 by omega))
        rcases ht with ⟨z, e, rfl, e2, e3, e4⟩ | ⟨z, e, e2, rfl, e3, e4⟩
        · refine ⟨fun _ => ⟨vp_in_nI (by omega) (by omega), ?_⟩, fun z' => absurd z z'⟩
          unfold wX6_shelve_115 wX6_shelve_158
          rw [hat, nI_clamp (by omega), nI_clamp (by omega), (hA e e2).1, (hA e e2).2, ← e3, ← e4]
          exact ⟨vp_in_nI (by omega) (by omega), fun _ => ⟨vp_in_nI (by omega) (by omega), vp_in_nI (by omega) (by omega), hkk⟩, fun z' => absurd z z'⟩
        · refine ⟨fun z' => absurd z' z, fun _ => ⟨vp_in_nI (by omega) (by omega), ?_⟩⟩
          unfold wX6_shelve_115 wX6_shelve_158
          rw [hat, nI_clamp (by omega), nI_clamp (by omega), (hset e e2).1, (hset e e2).2, ← e3, ← e4]
          exact ⟨vp_in_nI (by omega) (by omega), fun z' => absurd z' z, fun _ => ⟨vp_in_nI (by omega) (by omega), vp_in_nI (by omega) (by omega), hkk⟩⟩
      · exact hk _ _ _ _ (Or.inl ⟨i, j, a, b, hp2, ht, Or.inr ⟨fun g2 => g (g2.trans hq.symm), rfl, rfl⟩⟩) hS
    unfold wX6_shelve_49
    refine ⟨fun g => fin 1 ?_, fun g => fin 0 ?_⟩
    · rw [if_pos ((nI_is1 hi).mp g)]
    · rw [if_neg (fun g2 => g ((nI_is1 hi).mpr g2))]
  have none' : ¬ ((∃ i j, z_pl2 v1 v2 i j) ∧ ∃ a b, z_thing L d v3 v4 a b) → post (-1) hw hp := fun h => hk _ _ _ _ (Or.inr ⟨h, rfl, rfl⟩) hS
  unfold wX6_shelve
  refine s6_isShelfPlace (fun i j h => ?_) (fun h => ?_)
  · unfold wX6_shelve_5
    refine ⟨fun z => absurd z (by decide), fun _ => ⟨fun g => ?_, fun g => ?_⟩⟩
    · refine s1_has hl (fun e e1 e2 => ?_) (fun hn => ?_)
      · unfold wX6_shelve_44
        exact ⟨fun z => absurd z (by decide), fun _ => main i j _ _ h (Or.inl ⟨g, e, e1, e2, rfl, rfl⟩)⟩
      · unfold wX6_shelve_44
        refine ⟨fun _ => none' (fun ⟨_, a, b, ht⟩ => ?_), fun z => absurd rfl z⟩
        rcases ht with ⟨z, e, e1, e2, _, _⟩ | ⟨z, _⟩
        · exact hn ⟨e, e1, e2⟩
        · exact z g
    · refine s4_has (by omega) (fun e e1 e2 => ?_) (fun hn => ?_)
      · unfold wX6_shelve_26
        exact ⟨fun z => absurd z (by decide), fun _ => main i j _ _ h (Or.inr ⟨g, e, e2, e1, rfl, rfl⟩)⟩
      · unfold wX6_shelve_26
        refine ⟨fun _ => none' (fun ⟨_, a, b, ht⟩ => ?_), fun z => absurd rfl z⟩
        rcases ht with ⟨z, _⟩ | ⟨z, e, e2, e1, _, _⟩
        · exact g z
        · exact hn ⟨e, e1, e2⟩
  · unfold wX6_shelve_5
    exact ⟨fun _ => none' (fun ⟨q, _⟩ => h q), fun z => absurd rfl z⟩
theorem s7_shelve {L : ZL} {d : ZC} {S : ZH} {post : Int32 → Int32 → Int32 → Int64 → Int32 → Int64 → Int64 → Int32 → Int32 → Int32 → Int32 → Int64 → Int64 → Int64 → Int32 → (Nat → Int32) → (Nat → Int32) → (Nat → Int32) → (Nat → Int64) → (Nat → Int64) → (Nat → Int64) → (Nat → Int64) → (Nat → Int64) → (Nat → Int64) → (Nat → Int64) → (Nat → Int64) → Prop} {t_raised t_many : Int32} {t_room : Int64} {t_breakAt : Int32} {t_breakWeight t_breakProfit : Int64} {t_from t_to t_made t_sets : Int32} {t_bestBits t_bestWeight t_bestProfit : Int64} {t_nexts : Int32} {t_all t_orderOf t_placeOf : Nat → Int32} {t_w t_p t_setBits t_setWeight t_setProfit t_nextProfit t_nextWeight t_nextBits : Nat → Int64} {v1 v2 v3 v4 : Int32} (hl : l_lim L) (hL : y_L L t_all) (ha : l_at L d) (hS : y_sh S t_all)
    (hk : ∀ S' (r t_raised' t_many' : Int32) (t_room' : Int64) (t_breakAt' : Int32) (t_breakWeight' t_breakProfit' : Int64) (t_from' t_to' t_made' t_sets' : Int32) (t_bestBits' t_bestWeight' t_bestProfit' : Int64) (t_nexts' : Int32) (t_all' t_orderOf' t_placeOf' : Nat → Int32) (t_w' t_p' t_setBits' t_setWeight' t_setProfit' t_nextProfit' t_nextWeight' t_nextBits' : Nat → Int64), z_shs L d S v1 v2 v3 v4 r S' → t_raised' = 0 → y_sh S' t_all' → (∀ j, (j < 127 ∨ 151 ≤ j) → t_all' j = t_all j) → post r t_raised' t_many' t_room' t_breakAt' t_breakWeight' t_breakProfit' t_from' t_to' t_made' t_sets' t_bestBits' t_bestWeight' t_bestProfit' t_nexts' t_all' t_orderOf' t_placeOf' t_w' t_p' t_setBits' t_setWeight' t_setProfit' t_nextProfit' t_nextWeight' t_nextBits') : wX7_shelve post t_raised t_many t_room t_breakAt t_breakWeight t_breakProfit t_from t_to t_made t_sets t_bestBits t_bestWeight t_bestProfit t_nexts t_all t_orderOf t_placeOf t_w t_p t_setBits t_setWeight t_setProfit t_nextProfit t_nextWeight t_nextBits v1 v2 v3 v4 := by
  have hlo := hL.ld hl
  have l1 := hl.1
  obtain ⟨a0, a1, a2, a3, a4⟩ := id hL
  obtain ⟨hok, hK⟩ := ha.ok hl
  have hlen : d.2.2.2.1.length ≤ 1000 := Nat.le_trans hok.2.2.2.1 hl.2.2.2.2.2.2
  unfold wX7_shelve
  refine s7_lays hlo ha (fun nx orderOf placeOf tw tp sb sw sp np nw nb harr hy => ?_)
  unfold wX7_shelve_9
  refine s7_isShelf (fun i j h => ?_) (fun h => ?_)
  · have h2 := h
    obtain ⟨rfl, rfl, hi, hj⟩ := h2
    have hat : (127 : Int32) + (3 : Int32) * ((4 : Int32) * nI i + nI j) = nI (127 + 3 * (4 * i + j)) := by
      rw [show (4 : Int32) = nI 4 from rfl, show (3 : Int32) = nI 3 from rfl, show (127 : Int32) = nI 127 from rfl, nI_mul, nI_add, nI_mul, nI_add]
    have hat1 : nI (127 + 3 * (4 * i + j)) + (1 : Int32) = nI (128 + 3 * (4 * i + j)) := by
      rw [show (1 : Int32) = nI 1 from rfl, nI_add]
      congr 1
      omega
    have hat2 : nI (127 + 3 * (4 * i + j)) + (2 : Int32) = nI (129 + 3 * (4 * i + j)) := by
      rw [show (2 : Int32) = nI 2 from rfl, nI_add]
      congr 1
      omega
    have hoff : ∀ (a b : Int32) (q : Nat), (q < 127 ∨ 151 ≤ q) → upd (upd (upd t_all (127 + 3 * (4 * i + j)) 1) (128 + 3 * (4 * i + j)) a) (129 + 3 * (4 * i + j)) b q = t_all q := fun a b q hq => by
      rw [pk_un (by omega), pk_un (by omega), pk_un (by omega)]
    have main : ∀ a b, z_thing L d v3 v4 a b → ∀ q : Int32, q = (if i = 1 then 1 else 0) → wX7_shelve_63 post 0 (nI (z_c 60 L.1)) (lN L.2.2.2.1) (nI (z_bk (z_w 60 L.2.1 L.2.2.1 L.1) L.2.2.2.1 (z_c 60 L.1) 0)) (lN (z_sm (z_w 60 L.2.1 L.2.2.1 L.1) (z_bk (z_w 60 L.2.1 L.2.2.1 L.1) L.2.2.2.1 (z_c 60 L.1) 0))) (lN (z_sm (z_p 60 L.2.1 L.2.2.1 L.1) (z_bk (z_w 60 L.2.1 L.2.2.1 L.1) L.2.2.2.1 (z_c 60 L.1) 0))) (nI d.1) (y_to d.2.1) (nI d.2.2.1) (nI d.2.2.2.1.length) (lN d.2.2.2.2.2.2) (lN d.2.2.2.2.1) (lN d.2.2.2.2.2.1) nx t_all orderOf placeOf tw tp sb sw sp np nw nb (nI i) (nI j) v3 v4 v3 q := by
      intro a b ht q hq
      unfold wX7_shelve_63
      refine ⟨fun g => ?_, fun g => ?_⟩
      · have ht2 := ht
        rw [hat]
        refine ⟨vp_in_nI (by omega) (by omega), ?_, ?_⟩
        · intro z
          rcases ht with ⟨_, e, rfl, e2, e3, e4⟩ | ⟨z', _⟩
          · unfold wX7_shelve_121 wX7_shelve_155
            rw [hat1, hat2, nI_clamp (by omega), nI_clamp (by omega), nI_clamp (by omega), show (4 : Int32) = nI 4 from rfl, show (64 : Int32) = nI 64 from rfl, nI_add, nI_add, nI_clamp (by omega), nI_clamp (by omega), pk_un (show 4 + e ≠ 127 + 3 * (4 * i + j) by omega), pk_un (show 64 + e ≠ 128 + 3 * (4 * i + j) by omega), pk_un (show 64 + e ≠ 127 + 3 * (4 * i + j) by omega), (a4 e e2).1, (a4 e e2).2, ← e3, ← e4]
            exact ⟨vp_in_nI (by omega) (by omega), vp_in_nI (by omega) (by omega), fun _ => ⟨vp_in_nI (by omega) (by omega), vp_in_nI (by omega) (by omega), hk _ _ _ _ _ _ _ _ _ _ _ _ _ _ _ _ _ _ _ _ _ _ _ _ _ _ _ (Or.inl ⟨i, j, a, b, h, ht2, Or.inl ⟨g.trans hq, rfl, rfl⟩⟩) rfl (y_sh_put hS (show 4 * i + j < 8 by omega)) (hoff a b)⟩, fun z' => absurd z z'⟩
          · exact absurd z z'
        · intro z
          rcases ht with ⟨z', _⟩ | ⟨_, e, e2, rfl, e3, e4⟩
          · exact absurd z' z
          · unfold wX7_shelve_121 wX7_shelve_155
            rw [hat1, hat2, nI_clamp (by omega), nI_clamp (by omega), nI_clamp (by omega), nI_clamp (by omega), (hy e e2).1, (hy e e2).2.1, lN_i, lN_i, ← e3, ← e4]
            exact ⟨vp_in_nI (by omega) (by omega), vp_in_nI (by omega) (by omega), fun z' => absurd z' z, fun _ => ⟨vp_in_nI (by omega) (by omega), vp_in_nI (by omega) (by omega), hk _ _ _ _ _ _ _ _ _ _ _ _ _ _ _ _ _ _ _ _ _ _ _ _ _ _ _ (Or.inl ⟨i, j, a, b, h, ht2, Or.inl ⟨g.trans hq, rfl, rfl⟩⟩) rfl (y_sh_put hS (show 4 * i + j < 8 by omega)) (hoff a b)⟩⟩
      · exact hk _ _ _ _ _ _ _ _ _ _ _ _ _ _ _ _ _ _ _ _ _ _ _ _ _ _ _ (Or.inl ⟨i, j, a, b, h, ht, Or.inr ⟨fun g2 => g (g2.trans hq.symm), rfl, rfl⟩⟩) rfl hS (fun _ _ => rfl)
    unfold wX7_shelve_14
    refine ⟨fun z => absurd z (by decide), fun _ => ⟨fun g => ?_, fun g => ?_⟩⟩
    · refine s7_isItem l1 a0 (fun e e1 e2 => ?_) (fun hn => ?_)
      · unfold wX7_shelve_47 wX7_shelve_52
        refine ⟨fun z => absurd z (by decide), fun _ => ⟨fun g2 => main _ _ (Or.inl ⟨g, e, e1, e2, rfl, rfl⟩) 1 ?_, fun g2 => main _ _ (Or.inl ⟨g, e, e1, e2, rfl, rfl⟩) 0 ?_⟩⟩
        · rw [if_pos ((nI_is1 hi).mp g2)]
        · rw [if_neg (fun g3 => g2 ((nI_is1 hi).mpr g3))]
      · unfold wX7_shelve_47
        refine ⟨fun _ => hk _ _ _ _ _ _ _ _ _ _ _ _ _ _ _ _ _ _ _ _ _ _ _ _ _ _ _ (Or.inr ⟨fun ⟨_, a, b, ht⟩ => ?_, rfl, rfl⟩) rfl hS (fun _ _ => rfl), fun z => absurd rfl z⟩
        rcases ht with ⟨z, e, e1, e2, _, _⟩ | ⟨z, _⟩
        · exact hn ⟨e, e1, e2⟩
        · exact z g
    · refine s7_inN (by omega) (fun e e1 e2 => ?_) (fun hn => ?_)
      · unfold wX7_shelve_35 wX7_shelve_52
        refine ⟨fun z => absurd z (by decide), fun _ => ⟨fun g2 => main _ _ (Or.inr ⟨g, e, e2, e1, rfl, rfl⟩) 1 ?_, fun g2 => main _ _ (Or.inr ⟨g, e, e2, e1, rfl, rfl⟩) 0 ?_⟩⟩
        · rw [if_pos ((nI_is1 hi).mp g2)]
        · rw [if_neg (fun g3 => g2 ((nI_is1 hi).mpr g3))]
      · unfold wX7_shelve_35
        refine ⟨fun _ => hk _ _ _ _ _ _ _ _ _ _ _ _ _ _ _ _ _ _ _ _ _ _ _ _ _ _ _ (Or.inr ⟨fun ⟨_, a, b, ht⟩ => ?_, rfl, rfl⟩) rfl hS (fun _ _ => rfl), fun z => absurd rfl z⟩
        rcases ht with ⟨z, _⟩ | ⟨z, e, e2, e1, _, _⟩
        · exact g z
        · exact hn ⟨e, e1, e2⟩
  · unfold wX7_shelve_14
    exact ⟨fun _ => hk _ _ _ _ _ _ _ _ _ _ _ _ _ _ _ _ _ _ _ _ _ _ _ _ _ _ _ (Or.inr ⟨fun ⟨q, _⟩ => h q, rfl, rfl⟩) rfl hS (fun _ _ => rfl), fun z => absurd rfl z⟩
