set_option maxRecDepth 100000 in
theorem uinX0 : ∀ w ∈ u_ws RX0 TX0 10, w ∈ lw_tbl := by decide +kernel
set_option maxRecDepth 100000 in
theorem uinX1 : ∀ w ∈ u_ws RX1 TX1 6, w ∈ lw_tbl := by decide +kernel
set_option maxRecDepth 100000 in
theorem uinX2 : ∀ w ∈ u_ws RX2 TX2 9, w ∈ lw_tbl := by decide +kernel
set_option maxRecDepth 100000 in
theorem uinX3 : ∀ w ∈ u_ws RX3 TX3 5, w ∈ lw_tbl := by decide +kernel
set_option maxRecDepth 100000 in
theorem uinX4 : ∀ w ∈ u_ws RX4 TX4 4, w ∈ lw_tbl := by decide +kernel
set_option maxRecDepth 100000 in
theorem uinX5 : ∀ w ∈ u_ws RX5 TX5 7, w ∈ lw_tbl := by decide +kernel
set_option maxRecDepth 100000 in
theorem uinX6 : ∀ w ∈ u_ws RX6 TX6 11, w ∈ lw_tbl := by decide +kernel
set_option maxRecDepth 100000 in
theorem uinX7 : ∀ w ∈ u_ws RX7 TX7 41, w ∈ lw_tbl := by decide +kernel
theorem prim_K {s : State} {cA comp : ClassId} {kA : Class} {ty : FieldType} (h2 : s.vm.classes[cA]? = some kA) (h3 : kA.kind = .array comp ty) : ArrOfT s cA ty := fun n z => ⟨fun k h => (by cases h), kA, h2, comp, h3⟩
set_option maxHeartbeats 4000000 in
set_option maxRecDepth 100000 in
theorem law_K {s : State} {b : Nat} (hts : ∀ w ∈ lw_tbl, w.before #[Value.ref b] s = true) : ∃ (dC : Nat → ClassId) (dI : Nat → Nat → Nat) (cy : Nat → ClassId), va_K (dC, dI) vwCl (xT cy) s := by
  obtain ⟨c0, i0, k0⟩ := u_known (C := RX0) (T := TX0) (N := 10) (n := 10) hts uinX0 (hts (.instantiable RX0 10) (by decide +kernel))
  obtain ⟨c1, i1, k1⟩ := u_known (C := RX1) (T := TX1) (N := 6) (n := 6) hts uinX1 (hts (.instantiable RX1 6) (by decide +kernel))
  obtain ⟨c2, i2, k2⟩ := u_known (C := RX2) (T := TX2) (N := 9) (n := 9) hts uinX2 (hts (.instantiable RX2 9) (by decide +kernel))
  obtain ⟨c3, i3, k3⟩ := u_known (C := RX3) (T := TX3) (N := 5) (n := 5) hts uinX3 (hts (.instantiable RX3 5) (by decide +kernel))
  obtain ⟨c4, i4, k4⟩ := u_known (C := RX4) (T := TX4) (N := 4) (n := 4) hts uinX4 (hts (.instantiable RX4 4) (by decide +kernel))
  obtain ⟨c5, i5, k5⟩ := u_known (C := RX5) (T := TX5) (N := 7) (n := 7) hts uinX5 (hts (.instantiable RX5 7) (by decide +kernel))
  obtain ⟨c6, i6, k6⟩ := u_known (C := RX6) (T := TX6) (N := 11) (n := 11) hts uinX6 (hts (.instantiable RX6 11) (by decide +kernel))
  obtain ⟨c7, i7, k7⟩ := u_known (C := RX7) (T := TX7) (N := 41) (n := 41) hts uinX7 (hts (.instantiable RX7 41) (by decide +kernel))
  obtain ⟨t0, a0, p0, x0, y0, z0⟩ := Cond.arrayClass_spec (hts (.arrayClass .int) (by decide +kernel))
  obtain ⟨t1, a1, p1, x1, y1, z1⟩ := Cond.arrayClass_spec (hts (.arrayClass .long) (by decide +kernel))
  obtain ⟨t2, a2, p2, x2, y2, z2⟩ := Cond.arrayClass_spec (hts (.arrayClass .byte) (by decide +kernel))
  obtain ⟨t3, a3, p3, x3, y3, z3⟩ := Cond.arrayClass_spec (hts (.arrayClass .boolean) (by decide +kernel))
  obtain ⟨p4, t4, a4, v4, -, y4, z4, x4⟩ := Cond.arrayOver_spec (hts (.arrayOver (.object "KnapsackCore$Load")) (by decide +kernel))
  obtain ⟨p5, t5, a5, v5, -, y5, z5, x5⟩ := Cond.arrayOver_spec (hts (.arrayOver (.object "KnapsackCore$State")) (by decide +kernel))
  refine ⟨fun k => ([c0, c1, c2, c3, c4, c5, c6, c7] : List ClassId).getD k 0, fun k => ([i0, i1, i2, i3, i4, i5, i6, i7] : List (Nat → Nat)).getD k (fun _ => 0), fun k => ([t0, t1, t2, t3, t4, t5] : List ClassId).getD k 0, ?_, ?_⟩
  · intro k q hq
    match k, hq with
    | 0, hq => cases hq; exact k0
    | 1, hq => cases hq; exact k1
    | 2, hq => cases hq; exact k2
    | 3, hq => cases hq; exact k3
    | 4, hq => cases hq; exact k4
    | 5, hq => cases hq; exact k5
    | 6, hq => cases hq; exact k6
    | 7, hq => cases hq; exact k7
    | k + 8, hq => simp [vwCl] at hq
  · intro k q hq
    match k, hq with
    | 0, hq => cases hq; exact ⟨prim_K y0 z0, x0⟩
    | 1, hq => cases hq; exact ⟨prim_K y1 z1, x1⟩
    | 2, hq => cases hq; exact ⟨prim_K y2 z2, x2⟩
    | 3, hq => cases hq; exact ⟨prim_K y3 z3, x3⟩
    | 4, hq => cases hq; exact ⟨prim_K y4 z4, ⟨a4, p4, y4, z4, v4, x4⟩⟩
    | 5, hq => cases hq; exact ⟨prim_K y5 z5, ⟨a5, p5, y5, z5, v5, x5⟩⟩
    | k + 6, hq => simp [xT] at hq
set_option maxRecDepth 100000 in
theorem xN_in : ∀ w ∈ xN, w ∈ lw_tbl := by decide +kernel
theorem xN_on : ∀ w ∈ xN, w.onTables = true := by decide +kernel
set_option maxHeartbeats 4000000 in
set_option maxRecDepth 100000 in
theorem law_env {s : State} {b : Nat} (hts : ∀ w ∈ lw_tbl, w.before #[Value.ref b] s = true) (hgv : (Jvm.Cond.and given_1 narrow_1).before #[Value.ref b] s = true) : ∃ ad : (Nat → Nat) × (Nat → Nat), xE ad (fun q => s.heap.size ≤ q) s s.heap ∧ xEx (fun q => s.heap.size ≤ q) s s.heap := by
  have hs := flat_of_before _ hgv
  have hA : ∀ a : Nat, a < s.heap.size → ¬ (fun q : Nat => s.heap.size ≤ q) a := fun a h => Nat.not_le.mpr h
  obtain ⟨adK, adV, hSt, hev⟩ := vk_Sof (args := #[Value.ref b]) (s := s) (N := 3) (tm := fun i => Term.string RX3 (([63, 69, 71] : List Nat).getD i 0)) (len := [4, 4, 4]) (byt := [[114, 111, 111, 109], [109, 111, 115, 116], [105, 116, 101, 109]]) (A := fun q : Nat => s.heap.size ≤ q) (fun i hi => by rcases (show i = 0 ∨ i = 1 ∨ i = 2 by omega) with rfl | rfl | rfl <;> decide) (fun i hi => by rcases (show i = 0 ∨ i = 1 ∨ i = 2 by omega) with rfl | rfl | rfl <;> exact hs _ (by decide +kernel)) (fun i hi => by rcases (show i = 0 ∨ i = 1 ∨ i = 2 by omega) with rfl | rfl | rfl <;> exact hs _ (by decide +kernel)) (fun i hi => by rcases (show i = 0 ∨ i = 1 ∨ i = 2 by omega) with rfl | rfl | rfl <;> exact hs _ (by decide +kernel)) (fun i hi => by rcases (show i = 0 ∨ i = 1 ∨ i = 2 by omega) with rfl | rfl | rfl <;> exact hs _ (by decide +kernel)) (fun i hi j hj => by rcases (show i = 0 ∨ i = 1 ∨ i = 2 by omega) with rfl | rfl | rfl <;> rcases (show j = 0 ∨ j = 1 ∨ j = 2 ∨ j = 3 by replace hj : j < 4 := hj; omega) with rfl | rfl | rfl | rfl <;> exact hs _ (by decide +kernel)) (fun i j hi hj hn => by rcases (show i = 0 ∨ i = 1 ∨ i = 2 by omega) with rfl | rfl | rfl <;> rcases (show j = 0 ∨ j = 1 ∨ j = 2 by omega) with rfl | rfl | rfl <;> first | exact absurd rfl hn | exact Or.inl (hs _ (by decide +kernel)) | exact Or.inr (hs _ (by decide +kernel))) hA
  obtain ⟨e0, -, -, -, g0, -⟩ := Cond.exactly_spec (hs (.exactly (.string RX6 202) "java/lang/String") (by decide +kernel))
  obtain ⟨e1, -, -, -, g1, -⟩ := Cond.exactly_spec (hs (.exactly (.string RX6 223) "java/lang/String") (by decide +kernel))
  obtain ⟨e2, -, -, -, g2, -⟩ := Cond.exactly_spec (hs (.exactly (.string RX6 236) "java/lang/String") (by decide +kernel))
  obtain ⟨e3, -, -, -, g3, -⟩ := Cond.exactly_spec (hs (.exactly (.string RX6 253) "java/lang/String") (by decide +kernel))
  refine ⟨(fun i => if i < 3 then adK i else ([e0, e1, e2, e3] : List Nat).getD (i - 3) 0, adV), ⟨fun w hw => va_Nw.of (xN_on w hw) (hts w (xN_in w hw)), ?_, ⟨?_, ?_, ?_⟩, ⟨?_, ?_, ?_, ?_⟩, ⟨va_AO.of (hts (.arrayOver (.object "KnapsackCore$State")) (by decide +kernel)), va_AO.of (hts (.arrayOver (.object "KnapsackCore$Load")) (by decide +kernel))⟩, ?_, ?_⟩, ?_⟩
  · refine ⟨fun i hi => ?_, fun i j hi hj e => hSt.2 i j hi hj ?_⟩
    · dsimp only
      rw [if_pos hi]
      exact hSt.1 i hi
    · dsimp only at e
      rw [if_pos hi, if_pos hj] at e
      exact e
  · exact vk_R.of (A := #[Value.ref b]) (hts (.stringRef RX3 63 "room") (by decide +kernel)) (hev 0 (by omega))
  · exact vk_R.of (A := #[Value.ref b]) (hts (.stringRef RX3 69 "most") (by decide +kernel)) (hev 1 (by omega))
  · exact vk_R.of (A := #[Value.ref b]) (hts (.stringRef RX3 71 "item") (by decide +kernel)) (hev 2 (by omega))
  · exact vk_R.of (A := #[Value.ref b]) (hts (.stringRef RX6 202 "there is no such item") (by decide +kernel)) g0
  · exact vk_R.of (A := #[Value.ref b]) (hts (.stringRef RX6 223 "an item has no such thing") (by decide +kernel)) g1
  · exact vk_R.of (A := #[Value.ref b]) (hts (.stringRef RX6 236 "there is no such set") (by decide +kernel)) g2
  · exact vk_R.of (A := #[Value.ref b]) (hts (.stringRef RX6 253 "a set has no such thing") (by decide +kernel)) g3
  · exact va_Zof (args := #[Value.ref b]) (hts (.laysStatic "java/lang/String" "COMPACT_STRINGS" "Z") (by decide +kernel)) (hts (.initialized "java/lang/String") (by decide +kernel)) (va_eqt (hs (.eq (.static "java/lang/String" "COMPACT_STRINGS" "Z") (.int 1)) (by decide +kernel))) hA
  · exact va_Zqof (args := #[Value.ref b]) (hts (.laysStatic "jdk/internal/util/Preconditions" "SIOOBE_FORMATTER" "Ljava/util/function/BiFunction;") (by decide +kernel)) (hts (.initialized "jdk/internal/util/Preconditions") (by decide +kernel)) (hs (.isRef (.static "jdk/internal/util/Preconditions" "SIOOBE_FORMATTER" "Ljava/util/function/BiFunction;")) (by decide +kernel)) hA
  · refine ⟨⟨vx_Zqof (args := #[Value.ref b]) (hts (.laysStatic Bundle.tN "UNASSIGNED_STACK" Bundle.steD) (by decide +kernel)) (hts (.initialized Bundle.tN) (by decide +kernel)) (hs (.isRef (.static Bundle.tN "UNASSIGNED_STACK" Bundle.steD)) (by decide +kernel)) hA, vx_Zqof (args := #[Value.ref b]) (hts (.laysStatic Bundle.tN "SUPPRESSED_SENTINEL" Bundle.listD) (by decide +kernel)) (hts (.initialized Bundle.tN) (by decide +kernel)) (hs (.isRef (.static Bundle.tN "SUPPRESSED_SENTINEL" Bundle.listD)) (by decide +kernel)) hA⟩, va_Nw.of rfl (hts (.castable xNSE xNSE) (by decide +kernel)), va_Nw.of rfl (hts (.declares (Bundle.initS "java/lang/RuntimeException")) (by decide +kernel)), va_Nw.of rfl (hts (.declares (Bundle.initS "java/lang/Exception")) (by decide +kernel)), va_Nw.of rfl (hts (.declares (Bundle.initS Bundle.tN)) (by decide +kernel))⟩
