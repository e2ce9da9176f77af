set_option maxHeartbeats 4000000 in
set_option maxRecDepth 100000 in
theorem lc_item {p : Program} {l : Launch} {e : Env} {s : State} {m : MethodId} {below : List Frame} {meth : Method} {c : Code} {b L : Nat} {xs : Nat → Int32} {ad : (Nat → Nat) × (Nat → Nat)} {dC : Nat → ClassId} {dI : Nat → Nat → Nat} {cy : Nat → ClassId} {a_x a_m a_o : Nat} {Q : State → Prop} {i : Nat} {I : ZI} {H : List ZL} {d : ZC} {J : Nat → Option ZI} {qc qt qf : Nat × Nat} {ra : Int32} {o : Nat → Int64} {w : va_W} {H0 : Heap} {locs : List Loc} {ls : Array Slot} {cells slots : Nat} (hst : l.stackTraces = false) (C : LCtx p s m c b L xs ad dC dI cy) (hi : i + 5 ≤ L) (hL : L ≤ 2560) (V : LInv s dC dI cy b a_x a_m a_o i i (I, H, d, J, qc, qt, qf) ra o w H0 locs ls cells slots)
    (kk : ∀ (σ' : ZS) (ra' : Int32) (o' : Nat → Int64) (w' : va_W) (H' : Heap) (locs' : List Loc) (ls' : Array Slot) (cells' slots' : Nat), LInv s dC dI cy b a_x a_m a_o i (i + 5) σ' ra' o' w' H' locs' ls' cells' slots' → W p l e room_1 s m #[Value.ref b] below meth c H' locs' cells' slots' Q (F0 m 1161 ls' [])) :
    W p l e room_1 s m #[Value.ref b] below meth c H0 locs cells slots Q (F0 m 463 ls []) := by
  obtain ⟨hx, hb, hml, hown, hts, ht1, hX, hbl, hK, hE, hEx⟩ := C
  obtain ⟨hS, hW, hP, hD, hSt, hl, hc, hs⟩ := V
  have hzq := LW_q hW
  have hA : ∀ q : Nat, s.heap.size ≤ q → (fun q : Nat => s.heap.size ≤ q) q := fun _ h => h
  have hbA : ¬ (fun q : Nat => s.heap.size ≤ q) b := Nat.not_le.mpr hbl
  have hn1 : vp_in (nI i + 1) L := by rw [show (1 : Int32) = nI 1 from rfl, nI_add]; exact vp_in_nI (by omega) (by omega)
  have hn2 : vp_in (nI i + 2) L := by rw [show (2 : Int32) = nI 2 from rfl, nI_add]; exact vp_in_nI (by omega) (by omega)
  have hn3 : vp_in (nI i + 3) L := by rw [show (3 : Int32) = nI 3 from rfl, nI_add]; exact vp_in_nI (by omega) (by omega)
  have hn4 : vp_in (nI i + 4) L := by rw [show (4 : Int32) = nI 4 from rfl, nI_add]; exact vp_in_nI (by omega) (by omega)
  refine lv_aload_n hx hb dL_law_463 rfl (lv_at hl 1 rfl) ?_
  refine lv_aload_n hx hb dL_law_464 rfl (lv_at hl 0 rfl) ?_
  refine lv_iload hx hb dL_law_465 (lv_at hl 4 rfl) ?_
  refine lv_iconst (v := 1) hx hb dL_law_467 (by decide) ?_
  refine lv_iadd hx hb dL_law_468 ?_
  refine va_sld hx hb hX hbl hbA hSt hn1 dL_law_469 ?_
  refine lv_aload_n hx hb dL_law_470 rfl (lv_at hl 0 rfl) ?_
  refine lv_iload hx hb dL_law_471 (lv_at hl 4 rfl) ?_
  refine lv_iconst (v := 2) hx hb dL_law_473 (by decide) ?_
  refine lv_iadd hx hb dL_law_474 ?_
  refine va_sld hx hb hX hbl hbA hSt hn2 dL_law_475 ?_
  refine lv_aload_n hx hb dL_law_476 rfl (lv_at hl 3 rfl) ?_
  have hM1 := lx_item (l := l) (ad := ad) (dC := dC) (dI := dI) (sz := H0.size) hst hS hW ((xs (nI i + 1).toNatClampNeg)) ((xs (nI i + 2).toNatClampNeg))
  refine LSx (As := [.ref a_x, .int (xs (nI i + 1).toNatClampNeg), .int (xs (nI i + 2).toNatClampNeg), .ref a_o]) (rest := []) ⟨hx, hb, hml, hown, hts⟩ hM1 (vx_cwSW 4 hts gL_law_L_item rfl rfl rfl qL_item.2 ⟨Nat.le_of_ble_eq_true rfl, Nat.le_of_ble_eq_true rfl⟩) hE hEx hK hP hD hSt hA rfl hl.1 rfl (Nat.le_of_ble_eq_true rfl) dL_law_477 ⟨(by show cells + 1 ≤ 601024; omega), (by show slots + 6 ≤ 7293034; omega)⟩ (fun k u w1 H1 locs1 hp1 hW1 hP1 hD1 hSt1 => ?_)
  refine lv_istore (lv' := [(5, .int k), (0, .ref b), (1, .ref a_x), (2, .ref a_m), (3, .ref a_o), (4, .int (nI i))]) hx hb dL_law_480 hl (by decide) rfl (fun ls hl => ?_)
  refine lv_aload_n hx hb dL_law_482 rfl (lv_at hl 3 rfl) ?_
  refine lv_aload_n hx hb dL_law_483 rfl (lv_at hl 1 rfl) ?_
  refine lv_iload hx hb dL_law_484 (lv_at hl 5 rfl) ?_
  refine lv_iconst (v := 1) hx hb dL_law_486 (by decide) ?_
  refine lv_iadd hx hb dL_law_487 ?_
  refine va_sld hx hb hX hbl hbA hSt1 hn1 dL_law_488 ?_
  refine lv_aload_n hx hb dL_law_489 rfl (lv_at hl 1 rfl) ?_
  refine lv_iload hx hb dL_law_490 (lv_at hl 5 rfl) ?_
  refine lv_iconst (v := 2) hx hb dL_law_492 (by decide) ?_
  refine lv_iadd hx hb dL_law_493 ?_
  refine va_sld hx hb hX hbl hbA hSt1 hn2 dL_law_494 ?_
  obtain ⟨rm2, f2, g2, rc2, rs2, hM2⟩ := ly_item (l := l) (ad := ad) (dC := dC) (dI := dI) (sz := H1.size) hS hW1 ((xs (nI i + 1).toNatClampNeg)) ((xs (nI i + 2).toNatClampNeg))
  obtain ⟨k2, fm, hm0⟩ := LW_m hW1
  refine LVi (As := [.int (xs (nI i + 1).toNatClampNeg), .int (xs (nI i + 2).toNatClampNeg)]) (rest := []) ⟨hx, hb, hml, hown, hts⟩ hM2 (cwV 2 hts gL_law_X7_item rfl rc2 rs2 qlX7_item ⟨Nat.succ_le_succ f2, Nat.le_trans (Nat.add_le_add_left g2 _) (Nat.le_of_ble_eq_true rfl)⟩) hE hK hP1 hD1 hSt1 hA 7 rfl rfl hm0 rfl hl.1 rfl (Nat.le_of_ble_eq_true rfl) dL_law_495 ⟨(by show cells + 1 + 0 ≤ 601024; omega), (by show slots + 6 + 0 ≤ 7293034; omega)⟩ (fun r2 ζ2 w2 H2 locs2 hC2 hW2 hP2 hD2 hSt2 => ?_)
  obtain ⟨Ia, Ha, Ja, rb⟩ := ζ2
  obtain ⟨hra, e2, e3, e4⟩ := hC2
  replace e2 : I = Ia := Eq.symm e2
  replace e3 : H = Ha := Eq.symm e3
  replace e4 : J = Ja := Eq.symm e4
  subst e2 e3 e4
  refine lv_istore (lv' := [(6, .int r2), (5, .int k), (0, .ref b), (1, .ref a_x), (2, .ref a_m), (3, .ref a_o), (4, .int (nI i))]) hx hb dL_law_498 hl (by decide) rfl (fun ls hl => ?_)
  refine lv_aload_n hx hb dL_law_500 rfl (lv_at hl 4 rfl) ?_
  obtain ⟨rm3, f3, g3, rc3, rs3, hM3⟩ := ly_thrown (l := l) (ad := ad) (dC := dC) (dI := dI) (sz := H2.size) hW2
  obtain ⟨k3, fm3, hm3⟩ := LW_m hW2
  refine LVi (As := []) (rest := []) ⟨hx, hb, hml, hown, hts⟩ hM3 (cwV 0 hts gL_law_X7_thrown rfl rc3 rs3 qlX7_thrown ⟨Nat.succ_le_succ f3, Nat.le_trans (Nat.add_le_add_left g3 _) (Nat.le_of_ble_eq_true rfl)⟩) hE hK hP2 hD2 hSt2 hA 7 rfl rfl hm3 rfl hl.1 rfl (Nat.le_of_ble_eq_true rfl) dL_law_501 ⟨(by show cells + 1 + 0 + 0 ≤ 601024; omega), (by show slots + 6 + 0 + 0 ≤ 7293034; omega)⟩ (fun r3 ζ3 w3 H3 locs3 hp3 hW3 hP3 hD3 hSt3 => ?_)
  obtain ⟨er3, ez3⟩ := hp3
  subst ez3
  replace er3 : r3 = rb := er3
  have key : r3 = k ∧ (k = 0 → u 0 = r2.toInt64) := by
    rcases hp1 with ⟨ek, x, hv, eu⟩ | ⟨ek, hv, eu⟩
    · rcases hra with ⟨hv2, e0⟩ | ⟨hv2, e0⟩
      · have ex := z_item_un hS.1.1 hv hv2
        cases ex
        exact ⟨er3.trans (e0.trans ek.symm), fun _ => by rw [eu]; rfl⟩
      · have ex := z_item_un hS.1.1 hv hv2
        cases ex
    · rcases hra with ⟨hv2, e0⟩ | ⟨hv2, e0⟩
      · have ex := z_item_un hS.1.1 hv hv2
        cases ex
      · exact ⟨er3.trans (e0.trans ek.symm), fun z => absurd (ek.symm.trans z) (by decide)⟩
  have fin : ∀ ls, lv_has ls 8 [(6, .int r2), (5, .int k), (0, .ref b), (1, .ref a_x), (2, .ref a_m), (3, .ref a_o), (4, .int (nI i))] → W p l e room_1 s m #[Value.ref b] below meth c H3 locs3 (cells + 1 + 0 + 0) (slots + 6 + 0 + 0) Q (F0 m 1161 ls []) := fun ls hl => kk (I, H, d, J, qc, qt, qf) rb u w3 H3 locs3 ls _ _ ⟨hS, hW3, hP3, hD3, hSt3, lv_sub hl [2, 3, 4, 5, 6] rfl, by omega, by omega⟩
  refine lv_iload hx hb dL_law_504 (lv_at hl 1 rfl) ?_
  refine lv_icmp_eq (tgt := 511) hx hb dL_law_506 (by decide) (fun _ => ?_) (fun z => absurd key.1 z)
  refine lv_iload hx hb dL_law_511 (lv_at hl 1 rfl) ?_
  refine lv_if_ne (tgt := 528) hx hb dL_law_513 (by decide) (fun _ => ?_) (fun z => ?_)
  · refine lv_goto (tgt := 1161) hx hb dL_law_528 (by decide) ?_
    exact fin ls hl
  · obtain ⟨ko, ho⟩ := LW_o hW3
    refine lv_aload_n hx hb dL_law_516 rfl (lv_at hl 5 rfl) ?_
    refine lv_iconst (v := 0) hx hb dL_law_517 (by decide) ?_
    refine va_lald (D := (dC, dI)) hx hb hK hP3 ko 1 ho rfl (by unfold vp_in; decide) dL_law_518 ?_
    refine lv_iload hx hb dL_law_519 (lv_at hl 0 rfl) ?_
    refine lv_i2l hx hb dL_law_521 rfl ?_
    refine W.lcmp hx hb dL_law_522 ?_
    refine lv_if_eq (tgt := 528) hx hb dL_law_523 (by decide) (fun _ => ?_) (fun z2 => absurd ((lg_cmp_eq _ _).mpr (key.2 z)) z2)
    refine lv_goto (tgt := 1161) hx hb dL_law_528 (by decide) ?_
    exact fin ls hl
set_option maxHeartbeats 4000000 in
set_option maxRecDepth 100000 in
theorem lc_set {p : Program} {l : Launch} {e : Env} {s : State} {m : MethodId} {below : List Frame} {meth : Method} {c : Code} {b L : Nat} {xs : Nat → Int32} {ad : (Nat → Nat) × (Nat → Nat)} {dC : Nat → ClassId} {dI : Nat → Nat → Nat} {cy : Nat → ClassId} {a_x a_m a_o : Nat} {Q : State → Prop} {i : Nat} {I : ZI} {H : List ZL} {d : ZC} {J : Nat → Option ZI} {qc qt qf : Nat × Nat} {ra : Int32} {o : Nat → Int64} {w : va_W} {H0 : Heap} {locs : List Loc} {ls : Array Slot} {cells slots : Nat} (hst : l.stackTraces = false) (C : LCtx p s m c b L xs ad dC dI cy) (hi : i + 5 ≤ L) (hL : L ≤ 2560) (V : LInv s dC dI cy b a_x a_m a_o i i (I, H, d, J, qc, qt, qf) ra o w H0 locs ls cells slots)
    (kk : ∀ (σ' : ZS) (ra' : Int32) (o' : Nat → Int64) (w' : va_W) (H' : Heap) (locs' : List Loc) (ls' : Array Slot) (cells' slots' : Nat), LInv s dC dI cy b a_x a_m a_o i (i + 5) σ' ra' o' w' H' locs' ls' cells' slots' → W p l e room_1 s m #[Value.ref b] below meth c H' locs' cells' slots' Q (F0 m 1161 ls' [])) :
    W p l e room_1 s m #[Value.ref b] below meth c H0 locs cells slots Q (F0 m 582 ls []) := by
  obtain ⟨hx, hb, hml, hown, hts, ht1, hX, hbl, hK, hE, hEx⟩ := C
  obtain ⟨hS, hW, hP, hD, hSt, hl, hc, hs⟩ := V
  have hzq := LW_q hW
  have hA : ∀ q : Nat, s.heap.size ≤ q → (fun q : Nat => s.heap.size ≤ q) q := fun _ h => h
  have hbA : ¬ (fun q : Nat => s.heap.size ≤ q) b := Nat.not_le.mpr hbl
  have hn1 : vp_in (nI i + 1) L := by rw [show (1 : Int32) = nI 1 from rfl, nI_add]; exact vp_in_nI (by omega) (by omega)
  have hn2 : vp_in (nI i + 2) L := by rw [show (2 : Int32) = nI 2 from rfl, nI_add]; exact vp_in_nI (by omega) (by omega)
  have hn3 : vp_in (nI i + 3) L := by rw [show (3 : Int32) = nI 3 from rfl, nI_add]; exact vp_in_nI (by omega) (by omega)
  have hn4 : vp_in (nI i + 4) L := by rw [show (4 : Int32) = nI 4 from rfl, nI_add]; exact vp_in_nI (by omega) (by omega)
  refine lv_aload_n hx hb dL_law_582 rfl (lv_at hl 1 rfl) ?_
  refine lv_aload_n hx hb dL_law_583 rfl (lv_at hl 0 rfl) ?_
  refine lv_iload hx hb dL_law_584 (lv_at hl 4 rfl) ?_
  refine lv_iconst (v := 1) hx hb dL_law_586 (by decide) ?_
  refine lv_iadd hx hb dL_law_587 ?_
  refine va_sld hx hb hX hbl hbA hSt hn1 dL_law_588 ?_
  refine lv_aload_n hx hb dL_law_589 rfl (lv_at hl 0 rfl) ?_
  refine lv_iload hx hb dL_law_590 (lv_at hl 4 rfl) ?_
  refine lv_iconst (v := 2) hx hb dL_law_592 (by decide) ?_
  refine lv_iadd hx hb dL_law_593 ?_
  refine va_sld hx hb hX hbl hbA hSt hn2 dL_law_594 ?_
  refine lv_aload_n hx hb dL_law_595 rfl (lv_at hl 3 rfl) ?_
  have hM1 := lx_set (l := l) (ad := ad) (dC := dC) (dI := dI) (sz := H0.size) hst hS hW ((xs (nI i + 1).toNatClampNeg)) ((xs (nI i + 2).toNatClampNeg))
  refine LSx (As := [.ref a_x, .int (xs (nI i + 1).toNatClampNeg), .int (xs (nI i + 2).toNatClampNeg), .ref a_o]) (rest := []) ⟨hx, hb, hml, hown, hts⟩ hM1 (vx_cwSW 4 hts gL_law_L_set rfl rfl rfl qL_set.2 ⟨Nat.le_of_ble_eq_true rfl, Nat.le_of_ble_eq_true rfl⟩) hE hEx hK hP hD hSt hA rfl hl.1 rfl (Nat.le_of_ble_eq_true rfl) dL_law_596 ⟨(by show cells + 1 ≤ 601024; omega), (by show slots + 6 ≤ 7293034; omega)⟩ (fun k u w1 H1 locs1 hp1 hW1 hP1 hD1 hSt1 => ?_)
  refine lv_istore (lv' := [(5, .int k), (0, .ref b), (1, .ref a_x), (2, .ref a_m), (3, .ref a_o), (4, .int (nI i))]) hx hb dL_law_599 hl (by decide) rfl (fun ls hl => ?_)
  refine lv_aload_n hx hb dL_law_601 rfl (lv_at hl 3 rfl) ?_
  refine lv_aload_n hx hb dL_law_602 rfl (lv_at hl 1 rfl) ?_
  refine lv_iload hx hb dL_law_603 (lv_at hl 5 rfl) ?_
  refine lv_iconst (v := 1) hx hb dL_law_605 (by decide) ?_
  refine lv_iadd hx hb dL_law_606 ?_
  refine va_sld hx hb hX hbl hbA hSt1 hn1 dL_law_607 ?_
  refine lv_aload_n hx hb dL_law_608 rfl (lv_at hl 1 rfl) ?_
  refine lv_iload hx hb dL_law_609 (lv_at hl 5 rfl) ?_
  refine lv_iconst (v := 2) hx hb dL_law_611 (by decide) ?_
  refine lv_iadd hx hb dL_law_612 ?_
  refine va_sld hx hb hX hbl hbA hSt1 hn2 dL_law_613 ?_
  obtain ⟨rm2, f2, g2, rc2, rs2, hM2⟩ := ly_set (l := l) (ad := ad) (dC := dC) (dI := dI) (sz := H1.size) hS hW1 ((xs (nI i + 1).toNatClampNeg)) ((xs (nI i + 2).toNatClampNeg))
  obtain ⟨k2, fm, hm0⟩ := LW_m hW1
  refine LVl (As := [.int (xs (nI i + 1).toNatClampNeg), .int (xs (nI i + 2).toNatClampNeg)]) (rest := []) ⟨hx, hb, hml, hown, hts⟩ hM2 (cwV 2 hts gL_law_X7_set rfl rc2 rs2 qlX7_set ⟨Nat.succ_le_succ f2, Nat.le_trans (Nat.add_le_add_left g2 _) (Nat.le_of_ble_eq_true rfl)⟩) hE hK hP1 hD1 hSt1 hA 7 rfl rfl hm0 rfl hl.1 rfl (Nat.le_of_ble_eq_true rfl) dL_law_614 ⟨(by show cells + 1 + 0 ≤ 601024; omega), (by show slots + 6 + 0 ≤ 7293034; omega)⟩ (fun r2 ζ2 w2 H2 locs2 hC2 hW2 hP2 hD2 hSt2 => ?_)
  obtain ⟨Ia, Ha, Ja, rb⟩ := ζ2
  obtain ⟨hra, e2, e3, e4⟩ := hC2
  replace e2 : I = Ia := Eq.symm e2
  replace e3 : H = Ha := Eq.symm e3
  replace e4 : J = Ja := Eq.symm e4
  subst e2 e3 e4
  refine lv_lstore (lv' := [(6, .long r2), (5, .int k), (0, .ref b), (1, .ref a_x), (2, .ref a_m), (3, .ref a_o), (4, .int (nI i))]) hx hb dL_law_617 hl (by decide) rfl (fun ls hl => ?_)
  refine lv_aload_n hx hb dL_law_619 rfl (lv_at hl 4 rfl) ?_
  obtain ⟨rm3, f3, g3, rc3, rs3, hM3⟩ := ly_thrown (l := l) (ad := ad) (dC := dC) (dI := dI) (sz := H2.size) hW2
  obtain ⟨k3, fm3, hm3⟩ := LW_m hW2
  refine LVi (As := []) (rest := []) ⟨hx, hb, hml, hown, hts⟩ hM3 (cwV 0 hts gL_law_X7_thrown rfl rc3 rs3 qlX7_thrown ⟨Nat.succ_le_succ f3, Nat.le_trans (Nat.add_le_add_left g3 _) (Nat.le_of_ble_eq_true rfl)⟩) hE hK hP2 hD2 hSt2 hA 7 rfl rfl hm3 rfl hl.1 rfl (Nat.le_of_ble_eq_true rfl) dL_law_620 ⟨(by show cells + 1 + 0 + 0 ≤ 601024; omega), (by show slots + 6 + 0 + 0 ≤ 7293034; omega)⟩ (fun r3 ζ3 w3 H3 locs3 hp3 hW3 hP3 hD3 hSt3 => ?_)
  obtain ⟨er3, ez3⟩ := hp3
  subst ez3
  replace er3 : r3 = rb := er3
  have key : r3 = k ∧ (k = 0 → u 0 = r2) := by
    rcases hp1 with ⟨ek, x, hv, eu⟩ | ⟨ek, hv, eu⟩
    · rcases hra with ⟨hv2, e0⟩ | ⟨hv2, e0⟩
      · have ex := z_set_un (z_S_len hS) hv hv2
        cases ex
        exact ⟨er3.trans (e0.trans ek.symm), fun _ => by rw [eu]; rfl⟩
      · have ex := z_set_un (z_S_len hS) hv hv2
        cases ex
    · rcases hra with ⟨hv2, e0⟩ | ⟨hv2, e0⟩
      · have ex := z_set_un (z_S_len hS) hv hv2
        cases ex
      · exact ⟨er3.trans (e0.trans ek.symm), fun z => absurd (ek.symm.trans z) (by decide)⟩
  have fin : ∀ ls, lv_has ls 8 [(6, .long r2), (5, .int k), (0, .ref b), (1, .ref a_x), (2, .ref a_m), (3, .ref a_o), (4, .int (nI i))] → W p l e room_1 s m #[Value.ref b] below meth c H3 locs3 (cells + 1 + 0 + 0) (slots + 6 + 0 + 0) Q (F0 m 1161 ls []) := fun ls hl => kk (I, H, d, J, qc, qt, qf) rb u w3 H3 locs3 ls _ _ ⟨hS, hW3, hP3, hD3, hSt3, lv_sub hl [2, 3, 4, 5, 6] rfl, by omega, by omega⟩
  refine lv_iload hx hb dL_law_623 (lv_at hl 1 rfl) ?_
  refine lv_icmp_eq (tgt := 630) hx hb dL_law_625 (by decide) (fun _ => ?_) (fun z => absurd key.1 z)
  refine lv_iload hx hb dL_law_630 (lv_at hl 1 rfl) ?_
  refine lv_if_ne (tgt := 646) hx hb dL_law_632 (by decide) (fun _ => ?_) (fun z => ?_)
  · refine lv_goto (tgt := 1161) hx hb dL_law_646 (by decide) ?_
    exact fin ls hl
  · obtain ⟨ko, ho⟩ := LW_o hW3
    refine lv_aload_n hx hb dL_law_635 rfl (lv_at hl 5 rfl) ?_
    refine lv_iconst (v := 0) hx hb dL_law_636 (by decide) ?_
    refine va_lald (D := (dC, dI)) hx hb hK hP3 ko 1 ho rfl (by unfold vp_in; decide) dL_law_637 ?_
    refine lv_lload hx hb dL_law_638 (lv_at hl 0 rfl) ?_
    refine W.lcmp hx hb dL_law_640 ?_
    refine lv_if_eq (tgt := 646) hx hb dL_law_641 (by decide) (fun _ => ?_) (fun z2 => absurd ((lg_cmp_eq _ _).mpr (key.2 z)) z2)
    refine lv_goto (tgt := 1161) hx hb dL_law_646 (by decide) ?_
    exact fin ls hl
