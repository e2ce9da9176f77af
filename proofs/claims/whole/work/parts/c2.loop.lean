theorem lw_sub5 {L : Nat} (h : L ≤ 2560) : (nI L - 5).toInt = (L : Int) - 5 := by
  have h31 : L < 2 ^ 31 := by omega
  rw [Jvm.Kit.i32_sub, nI_toInt h31]
  · rfl
  · rw [nI_toInt h31]; show -2 ^ 31 ≤ (L : Int) - 5; omega
  · rw [nI_toInt h31]; show (L : Int) - 5 < 2 ^ 31; omega
set_option maxHeartbeats 4000000 in
set_option maxRecDepth 100000 in
theorem law_loop {p : Program} {l : Launch} {e : Env} {s : State} {m : MethodId} {below : List Frame} {meth : Method} {c : Code} {b L : Nat} {xs : Nat → Int32} {ad : (Nat → Nat) × (Nat → Nat)} {dC : Nat → ClassId} {dI : Nat → Nat → Nat} {cy : Nat → ClassId} {a_x a_m a_o : Nat} (C : LCtx p s m c b L xs ad dC dI cy) (hL : L ≤ 2560) (hst : l.stackTraces = false) {Q : State → Prop} (hend : ∀ (H : Heap) (ls : Array Slot), W p l e room_1 s m #[Value.ref b] below meth c H [] 601024 7293034 Q (F0 m 1168 ls [.int 1])) :
    ∀ (n i : Nat) (σ : ZS) (ra : Int32) (o : Nat → Int64) (w : va_W) (H0 : Heap) (locs : List Loc) (ls : Array Slot) (cells slots : Nat), i ≤ L → L + 1 ≤ i + n → LInv s dC dI cy b a_x a_m a_o i i σ ra o w H0 locs ls cells slots → W p l e room_1 s m #[Value.ref b] below meth c H0 locs cells slots Q (F0 m 23 ls []) := by
  obtain ⟨hx, hb, hml, hown, hts, ht1, hX, hbl, hK, hE, hEx⟩ := id C
  have hbA : ¬ (fun q : Nat => s.heap.size ≤ q) b := Nat.not_le.mpr hbl
  intro n
  induction n with
  | zero =>
    intro i σ ra o w H0 locs ls cells slots h1 h2
    omega
  | succ n ih =>
    intro i σ ra o w H0 locs ls cells slots hiL hin V
    obtain ⟨I, H, d, J, qc, qt, qf⟩ := σ
    obtain ⟨hS, hW, hP, hD, hSt, hl, hc, hs⟩ := id V
    have hzq := LW_q hW
    refine lv_iload hx hb dL_law_23 (lv_at hl 4 rfl) ?_
    refine lv_aload_n hx hb dL_law_25 rfl (lv_at hl 0 rfl) ?_
    refine va_slen hx hb hX hbl hbA hSt dL_law_26 ?_
    refine lv_iconst (v := 5) hx hb dL_law_27 (by decide) ?_
    refine lv_isub hx hb dL_law_28 ?_
    have hsub : (nI L - 5).toInt = (L : Int) - 5 := lw_sub5 hL
    refine lv_icmp_gt (tgt := 1167) hx hb dL_law_29 (by decide) (fun _ => ?_) (fun hle => ?_)
    · refine lv_iconst (v := 1) hx hb dL_law_1167 (by decide) ?_
      refine va_forget (fun q hq => hSt.2.2 q hq) ?_
      exact W.widen (k := 601024) (n := 7293034) (by omega) (by omega) (hend _ _)
    have hi : i + 5 ≤ L := by
      replace hle : ¬ (nI L - 5 < nI i) := hle
      rw [Int32.lt_iff_toInt_lt, hsub, nI_toInt (by omega)] at hle
      omega
    have hn0 : vp_in (nI i) L := vp_in_nI (by omega) (by omega)
    refine lv_aload_n hx hb dL_law_32 rfl (lv_at hl 0 rfl) ?_
    refine lv_iload hx hb dL_law_33 (lv_at hl 4 rfl) ?_
    refine va_sld hx hb hX hbl hbA hSt hn0 dL_law_35 ?_
    refine lv_bipush (v := 31) hx hb dL_law_36 (by decide) ?_
    refine lv_iand hx hb dL_law_38 ?_
    have tail : ∀ (σ' : ZS) (ra' : Int32) (o' : Nat → Int64) (w' : va_W) (H' : Heap) (locs' : List Loc) (ls' : Array Slot) (cells' slots' : Nat), LInv s dC dI cy b a_x a_m a_o i (i + 5) σ' ra' o' w' H' locs' ls' cells' slots' → W p l e room_1 s m #[Value.ref b] below meth c H' locs' cells' slots' Q (F0 m 1161 ls' []) := by
      intro σ' ra' o' w' H' locs' ls' cells' slots' V'
      obtain ⟨a1, a2, a3, a4, a5, hl', a7, a8⟩ := V'
      refine lv_iinc (v := nI (i + 5)) (lv' := [(4, .int (nI (i + 5))), (0, .ref b), (1, .ref a_x), (2, .ref a_m), (3, .ref a_o)]) hx hb dL_law_1161 hl' (k := 4) rfl (nI_add i 5) (by decide) rfl (fun ls hl => ?_)
      refine lv_goto (tgt := 23) hx hb dL_law_1164 (by decide) ?_
      exact ih (i + 5) σ' ra' o' w' H' locs' ls _ _ hi (by omega) ⟨a1, a2, a3, a4, a5, lv_sub hl [1, 2, 3, 4, 0] rfl, a7, a8⟩
    generalize hxe : xs (nI i).toNatClampNeg &&& 31 = x
    by_cases c0 : x = (0 : Int32)
    · refine lv_tableIn (off := 137) (tgt := 176) hx hb dL_law_39 (by rw [c0]; decide) (by rw [c0]; decide) (by rw [c0]; rfl) (by decide) ?_
      exact lc_type C hi hL V tail
    by_cases c1 : x = (1 : Int32)
    · refine lv_tableIn (off := 194) (tgt := 233) hx hb dL_law_39 (by rw [c1]; decide) (by rw [c1]; decide) (by rw [c1]; rfl) (by decide) ?_
      exact lc_read C hi hL V tail
    by_cases c2 : x = (2 : Int32)
    · refine lv_tableIn (off := 207) (tgt := 246) hx hb dL_law_39 (by rw [c2]; decide) (by rw [c2]; decide) (by rw [c2]; rfl) (by decide) ?_
      exact lc_fault C hi hL V tail
    by_cases c3 : x = (3 : Int32)
    · refine lv_tableIn (off := 248) (tgt := 287) hx hb dL_law_39 (by rw [c3]; decide) (by rw [c3]; decide) (by rw [c3]; rfl) (by decide) ?_
      exact lc_room C hi hL V tail
    by_cases c4 : x = (4 : Int32)
    · refine lv_tableIn (off := 273) (tgt := 312) hx hb dL_law_39 (by rw [c4]; decide) (by rw [c4]; decide) (by rw [c4]; rfl) (by decide) ?_
      exact lc_most C hi hL V tail
    by_cases c5 : x = (5 : Int32)
    · refine lv_tableIn (off := 298) (tgt := 337) hx hb dL_law_39 (by rw [c5]; decide) (by rw [c5]; decide) (by rw [c5]; rfl) (by decide) ?_
      exact lc_add C hi hL V tail
    by_cases c6 : x = (6 : Int32)
    · refine lv_tableIn (off := 335) (tgt := 374) hx hb dL_law_39 (by rw [c6]; decide) (by rw [c6]; decide) (by rw [c6]; rfl) (by decide) ?_
      exact lc_drop C hi hL V tail
    by_cases c7 : x = (7 : Int32)
    · refine lv_tableIn (off := 360) (tgt := 399) hx hb dL_law_39 (by rw [c7]; decide) (by rw [c7]; decide) (by rw [c7]; rfl) (by decide) ?_
      exact lc_step C hi hL V tail
    by_cases c8 : x = (8 : Int32)
    · refine lv_tableIn (off := 373) (tgt := 412) hx hb dL_law_39 (by rw [c8]; decide) (by rw [c8]; decide) (by rw [c8]; rfl) (by decide) ?_
      exact lc_solve C hi hL V tail
    by_cases c9 : x = (9 : Int32)
    · refine lv_tableIn (off := 386) (tgt := 425) hx hb dL_law_39 (by rw [c9]; decide) (by rw [c9]; decide) (by rw [c9]; rfl) (by decide) ?_
      exact lc_undo C hi hL V tail
    by_cases c10 : x = (10 : Int32)
    · refine lv_tableIn (off := 399) (tgt := 438) hx hb dL_law_39 (by rw [c10]; decide) (by rw [c10]; decide) (by rw [c10]; rfl) (by decide) ?_
      exact lc_count C hi hL V tail
    by_cases c11 : x = (11 : Int32)
    · refine lv_tableIn (off := 424) (tgt := 463) hx hb dL_law_39 (by rw [c11]; decide) (by rw [c11]; decide) (by rw [c11]; rfl) (by decide) ?_
      exact lc_item hst C hi hL V tail
    by_cases c12 : x = (12 : Int32)
    · refine lv_tableIn (off := 492) (tgt := 531) hx hb dL_law_39 (by rw [c12]; decide) (by rw [c12]; decide) (by rw [c12]; rfl) (by decide) ?_
      exact lc_reduced C hi hL V tail
    by_cases c13 : x = (13 : Int32)
    · refine lv_tableIn (off := 518) (tgt := 557) hx hb dL_law_39 (by rw [c13]; decide) (by rw [c13]; decide) (by rw [c13]; rfl) (by decide) ?_
      exact lc_order C hi hL V tail
    by_cases c14 : x = (14 : Int32)
    · refine lv_tableIn (off := 543) (tgt := 582) hx hb dL_law_39 (by rw [c14]; decide) (by rw [c14]; decide) (by rw [c14]; rfl) (by decide) ?_
      exact lc_set hst C hi hL V tail
    by_cases c15 : x = (15 : Int32)
    · refine lv_tableIn (off := 610) (tgt := 649) hx hb dL_law_39 (by rw [c15]; decide) (by rw [c15]; decide) (by rw [c15]; rfl) (by decide) ?_
      exact lc_best C hi hL V tail
    by_cases c16 : x = (16 : Int32)
    · refine lv_tableIn (off := 624) (tgt := 663) hx hb dL_law_39 (by rw [c16]; decide) (by rw [c16]; decide) (by rw [c16]; rfl) (by decide) ?_
      exact lc_share C hi hL V tail
    by_cases c17 : x = (17 : Int32)
    · refine lv_tableIn (off := 649) (tgt := 688) hx hb dL_law_39 (by rw [c17]; decide) (by rw [c17]; decide) (by rw [c17]; rfl) (by decide) ?_
      exact lc_linear C hi hL V tail
    by_cases c18 : x = (18 : Int32)
    · refine lv_tableIn (off := 663) (tgt := 702) hx hb dL_law_39 (by rw [c18]; decide) (by rw [c18]; decide) (by rw [c18]; rfl) (by decide) ?_
      exact lc_part C hi hL V tail
    by_cases c19 : x = (19 : Int32)
    · refine lv_tableIn (off := 700) (tgt := 739) hx hb dL_law_39 (by rw [c19]; decide) (by rw [c19]; decide) (by rw [c19]; rfl) (by decide) ?_
      exact lc_greedy C hi hL V tail
    by_cases c20 : x = (20 : Int32)
    · refine lv_tableIn (off := 726) (tgt := 765) hx hb dL_law_39 (by rw [c20]; decide) (by rw [c20]; decide) (by rw [c20]; rfl) (by decide) ?_
      exact lc_swap C hi hL V tail
    by_cases c21 : x = (21 : Int32)
    · refine lv_tableIn (off := 751) (tgt := 790) hx hb dL_law_39 (by rw [c21]; decide) (by rw [c21]; decide) (by rw [c21]; rfl) (by decide) ?_
      exact lc_front C hi hL V tail
    by_cases c22 : x = (22 : Int32)
    · refine lv_tableIn (off := 789) (tgt := 828) hx hb dL_law_39 (by rw [c22]; decide) (by rw [c22]; decide) (by rw [c22]; rfl) (by decide) ?_
      exact lc_other C hi hL V tail
    by_cases c23 : x = (23 : Int32)
    · refine lv_tableIn (off := 814) (tgt := 853) hx hb dL_law_39 (by rw [c23]; decide) (by rw [c23]; decide) (by rw [c23]; rfl) (by decide) ?_
      exact lc_without C hi hL V tail
    by_cases c24 : x = (24 : Int32)
    · refine lv_tableIn (off := 839) (tgt := 878) hx hb dL_law_39 (by rw [c24]; decide) (by rw [c24]; decide) (by rw [c24]; rfl) (by decide) ?_
      exact lc_with C hi hL V tail
    by_cases c25 : x = (25 : Int32)
    · refine lv_tableIn (off := 864) (tgt := 903) hx hb dL_law_39 (by rw [c25]; decide) (by rw [c25]; decide) (by rw [c25]; rfl) (by decide) ?_
      exact lc_least C hi hL V tail
    by_cases c26 : x = (26 : Int32)
    · refine lv_tableIn (off := 889) (tgt := 928) hx hb dL_law_39 (by rw [c26]; decide) (by rw [c26]; decide) (by rw [c26]; rfl) (by decide) ?_
      exact lc_ahead C hi hL V tail
    by_cases c27 : x = (27 : Int32)
    · refine lv_tableIn (off := 930) (tgt := 969) hx hb dL_law_39 (by rw [c27]; decide) (by rw [c27]; decide) (by rw [c27]; rfl) (by decide) ?_
      exact lc_shelve C hi hL V tail
    by_cases c28 : x = (28 : Int32)
    · refine lv_tableIn (off := 1007) (tgt := 1046) hx hb dL_law_39 (by rw [c28]; decide) (by rw [c28]; decide) (by rw [c28]; rfl) (by decide) ?_
      exact lc_shelved C hi hL V tail
    by_cases c29 : x = (29 : Int32)
    · refine lv_tableIn (off := 1072) (tgt := 1111) hx hb dL_law_39 (by rw [c29]; decide) (by rw [c29]; decide) (by rw [c29]; rfl) (by decide) ?_
      exact lc_image C hi hL V tail
    by_cases c30 : x = (30 : Int32)
    · refine lv_tableIn (off := 1097) (tgt := 1136) hx hb dL_law_39 (by rw [c30]; decide) (by rw [c30]; decide) (by rw [c30]; rfl) (by decide) ?_
      exact lc_again C hi hL V tail
    have z0 : ¬ x.toInt = (0 : Int) := lv_neT c0 (by decide)
    have z1 : ¬ x.toInt = (1 : Int) := lv_neT c1 (by decide)
    have z2 : ¬ x.toInt = (2 : Int) := lv_neT c2 (by decide)
    have z3 : ¬ x.toInt = (3 : Int) := lv_neT c3 (by decide)
    have z4 : ¬ x.toInt = (4 : Int) := lv_neT c4 (by decide)
    have z5 : ¬ x.toInt = (5 : Int) := lv_neT c5 (by decide)
    have z6 : ¬ x.toInt = (6 : Int) := lv_neT c6 (by decide)
    have z7 : ¬ x.toInt = (7 : Int) := lv_neT c7 (by decide)
    have z8 : ¬ x.toInt = (8 : Int) := lv_neT c8 (by decide)
    have z9 : ¬ x.toInt = (9 : Int) := lv_neT c9 (by decide)
    have z10 : ¬ x.toInt = (10 : Int) := lv_neT c10 (by decide)
    have z11 : ¬ x.toInt = (11 : Int) := lv_neT c11 (by decide)
    have z12 : ¬ x.toInt = (12 : Int) := lv_neT c12 (by decide)
    have z13 : ¬ x.toInt = (13 : Int) := lv_neT c13 (by decide)
    have z14 : ¬ x.toInt = (14 : Int) := lv_neT c14 (by decide)
    have z15 : ¬ x.toInt = (15 : Int) := lv_neT c15 (by decide)
    have z16 : ¬ x.toInt = (16 : Int) := lv_neT c16 (by decide)
    have z17 : ¬ x.toInt = (17 : Int) := lv_neT c17 (by decide)
    have z18 : ¬ x.toInt = (18 : Int) := lv_neT c18 (by decide)
    have z19 : ¬ x.toInt = (19 : Int) := lv_neT c19 (by decide)
    have z20 : ¬ x.toInt = (20 : Int) := lv_neT c20 (by decide)
    have z21 : ¬ x.toInt = (21 : Int) := lv_neT c21 (by decide)
    have z22 : ¬ x.toInt = (22 : Int) := lv_neT c22 (by decide)
    have z23 : ¬ x.toInt = (23 : Int) := lv_neT c23 (by decide)
    have z24 : ¬ x.toInt = (24 : Int) := lv_neT c24 (by decide)
    have z25 : ¬ x.toInt = (25 : Int) := lv_neT c25 (by decide)
    have z26 : ¬ x.toInt = (26 : Int) := lv_neT c26 (by decide)
    have z27 : ¬ x.toInt = (27 : Int) := lv_neT c27 (by decide)
    have z28 : ¬ x.toInt = (28 : Int) := lv_neT c28 (by decide)
    have z29 : ¬ x.toInt = (29 : Int) := lv_neT c29 (by decide)
    have z30 : ¬ x.toInt = (30 : Int) := lv_neT c30 (by decide)
    refine lv_tableOut (tgt := 1161) hx hb dL_law_39 (by omega) (by decide) ?_
    exact tail _ ra o w H0 locs ls _ _ ⟨hS, hW, hP, hD, hSt, hl, by omega, by omega⟩
