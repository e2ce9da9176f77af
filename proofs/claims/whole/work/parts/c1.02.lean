set_option maxHeartbeats 4000000 in
set_option maxRecDepth 100000 in
theorem lc_count {p : Program} {l : Launch} {e : Env} {s : State} {m : MethodId} {below : List Frame} {meth : Method} {c : Code} {b L : Nat} {xs : Nat → Int32} {ad : (Nat → Nat) × (Nat → Nat)} {dC : Nat → ClassId} {dI : Nat → Nat → Nat} {cy : Nat → ClassId} {a_x a_m a_o : Nat} {Q : State → Prop} {i : Nat} {I : ZI} {H : List ZL} {d : ZC} {J : Nat → Option ZI} {qc qt qf : Nat × Nat} {ra : Int32} {o : Nat → Int64} {w : va_W} {H0 : Heap} {locs : List Loc} {ls : Array Slot} {cells slots : Nat} (C : LCtx p s m c b L xs ad dC dI cy) (hi : i + 5 ≤ L) (hL : L ≤ 2560) (V : LInv s dC dI cy b a_x a_m a_o i i (I, H, d, J, qc, qt, qf) ra o w H0 locs ls cells slots)
    (kk : ∀ (σ' : ZS) (ra' : Int32) (o' : Nat → Int64) (w' : va_W) (H' : Heap) (locs' : List Loc) (ls' : Array Slot) (cells' slots' : Nat), LInv s dC dI cy b a_x a_m a_o i (i + 5) σ' ra' o' w' H' locs' ls' cells' slots' → W p l e room_1 s m #[Value.ref b] below meth c H' locs' cells' slots' Q (F0 m 1161 ls' [])) :
    W p l e room_1 s m #[Value.ref b] below meth c H0 locs cells slots Q (F0 m 438 ls []) := by
  obtain ⟨hx, hb, hml, hown, hts, ht1, hX, hbl, hK, hE, hEx⟩ := C
  obtain ⟨hS, hW, hP, hD, hSt, hl, hc, hs⟩ := V
  have hzq := LW_q hW
  have hA : ∀ q : Nat, s.heap.size ≤ q → (fun q : Nat => s.heap.size ≤ q) q := fun _ h => h
  have hbA : ¬ (fun q : Nat => s.heap.size ≤ q) b := Nat.not_le.mpr hbl
  have hn1 : vp_in (nI i + 1) L := by rw [show (1 : Int32) = nI 1 from rfl, nI_add]; exact vp_in_nI (by omega) (by omega)
  have hn2 : vp_in (nI i + 2) L := by rw [show (2 : Int32) = nI 2 from rfl, nI_add]; exact vp_in_nI (by omega) (by omega)
  have hn3 : vp_in (nI i + 3) L := by rw [show (3 : Int32) = nI 3 from rfl, nI_add]; exact vp_in_nI (by omega) (by omega)
  have hn4 : vp_in (nI i + 4) L := by rw [show (4 : Int32) = nI 4 from rfl, nI_add]; exact vp_in_nI (by omega) (by omega)
  refine lv_aload_n hx hb dL_law_438 rfl (lv_at hl 1 rfl) ?_
  refine lv_aload_n hx hb dL_law_439 rfl (lv_at hl 0 rfl) ?_
  refine lv_iload hx hb dL_law_440 (lv_at hl 4 rfl) ?_
  refine lv_iconst (v := 1) hx hb dL_law_442 (by decide) ?_
  refine lv_iadd hx hb dL_law_443 ?_
  refine va_sld hx hb hX hbl hbA hSt hn1 dL_law_444 ?_
  obtain ⟨rm1, mc1, ms1, f1, g1, rc1, rs1, bc1, bs1, hM1⟩ := lx_count (l := l) (ad := ad) (dC := dC) (dI := dI) (sz := H0.size) hS hW ((xs (nI i + 1).toNatClampNeg))
  obtain ⟨fx, hx0⟩ := LW_x hW
  refine LVi (As := [.int (xs (nI i + 1).toNatClampNeg)]) (rest := []) ⟨hx, hb, hml, hown, hts⟩ hM1 (cwV 1 hts gL_law_X6_count rfl rc1 rs1 qlX6_count ⟨Nat.succ_le_succ f1, Nat.le_trans (Nat.add_le_add_left g1 _) (Nat.le_of_ble_eq_true rfl)⟩) hE hK hP hD hSt hA 6 rfl rfl hx0 rfl hl.1 rfl (Nat.le_of_ble_eq_true rfl) dL_law_445 ⟨(by show cells + mc1 ≤ 601024; omega), (by show slots + ms1 ≤ 7293034; omega)⟩ (fun r1 σ1 w1 H1 locs1 hp1 hW1 hP1 hD1 hSt1 => ?_)
  obtain ⟨hC1, hS1, hq1, hq2⟩ := hp1
  have hzq1 := LW_q hW1
  refine lv_aload_n hx hb dL_law_448 rfl (lv_at hl 2 rfl) ?_
  refine lv_aload_n hx hb dL_law_449 rfl (lv_at hl 0 rfl) ?_
  refine lv_iload hx hb dL_law_450 (lv_at hl 4 rfl) ?_
  refine lv_iconst (v := 1) hx hb dL_law_452 (by decide) ?_
  refine lv_iadd hx hb dL_law_453 ?_
  refine va_sld hx hb hX hbl hbA hSt1 hn1 dL_law_454 ?_
  obtain ⟨rm2, f2, g2, rc2, rs2, hM2⟩ := ly_count (l := l) (ad := ad) (dC := dC) (dI := dI) (sz := H1.size) hS hW1 ((xs (nI i + 1).toNatClampNeg))
  obtain ⟨k2, fm, hm0⟩ := LW_m hW1
  refine LVi (As := [.int (xs (nI i + 1).toNatClampNeg)]) (rest := [.int r1]) ⟨hx, hb, hml, hown, hts⟩ hM2 (cwV 1 hts gL_law_X7_count rfl rc2 rs2 qlX7_count ⟨Nat.succ_le_succ f2, Nat.le_trans (Nat.add_le_add_left g2 _) (Nat.le_of_ble_eq_true rfl)⟩) hE hK hP1 hD1 hSt1 hA 7 rfl rfl hm0 rfl hl.1 rfl (Nat.le_of_ble_eq_true rfl) dL_law_455 ⟨(by show cells + mc1 + 0 ≤ 601024; omega), (by show slots + ms1 + 0 ≤ 7293034; omega)⟩ (fun r2 ζ2 w2 H2 locs2 hC2 hW2 hP2 hD2 hSt2 => ?_)
  obtain ⟨Ia, Ha, Ja, rb⟩ := ζ2
  obtain ⟨e1, e2, e3, e4⟩ := C_count_un hS hC1 hC2
  replace e2 : σ1.1 = Ia := e2
  replace e3 : σ1.2.1 = Ha := e3
  replace e4 : σ1.2.2.2.1 = Ja := e4
  subst e2 e3 e4
  refine lv_icmp_eq (tgt := 1161) hx hb dL_law_458 (by decide) (fun _ => ?_) (fun z => absurd e1 z)
  exact kk σ1 rb o w2 H2 locs2 ls _ _ ⟨hS1, hW2, hP2, hD2, hSt2, hl, by omega, by omega⟩
set_option maxHeartbeats 4000000 in
set_option maxRecDepth 100000 in
theorem lc_reduced {p : Program} {l : Launch} {e : Env} {s : State} {m : MethodId} {below : List Frame} {meth : Method} {c : Code} {b L : Nat} {xs : Nat → Int32} {ad : (Nat → Nat) × (Nat → Nat)} {dC : Nat → ClassId} {dI : Nat → Nat → Nat} {cy : Nat → ClassId} {a_x a_m a_o : Nat} {Q : State → Prop} {i : Nat} {I : ZI} {H : List ZL} {d : ZC} {J : Nat → Option ZI} {qc qt qf : Nat × Nat} {ra : Int32} {o : Nat → Int64} {w : va_W} {H0 : Heap} {locs : List Loc} {ls : Array Slot} {cells slots : Nat} (C : LCtx p s m c b L xs ad dC dI cy) (hi : i + 5 ≤ L) (hL : L ≤ 2560) (V : LInv s dC dI cy b a_x a_m a_o i i (I, H, d, J, qc, qt, qf) ra o w H0 locs ls cells slots)
    (kk : ∀ (σ' : ZS) (ra' : Int32) (o' : Nat → Int64) (w' : va_W) (H' : Heap) (locs' : List Loc) (ls' : Array Slot) (cells' slots' : Nat), LInv s dC dI cy b a_x a_m a_o i (i + 5) σ' ra' o' w' H' locs' ls' cells' slots' → W p l e room_1 s m #[Value.ref b] below meth c H' locs' cells' slots' Q (F0 m 1161 ls' [])) :
    W p l e room_1 s m #[Value.ref b] below meth c H0 locs cells slots Q (F0 m 531 ls []) := by
  obtain ⟨hx, hb, hml, hown, hts, ht1, hX, hbl, hK, hE, hEx⟩ := C
  obtain ⟨hS, hW, hP, hD, hSt, hl, hc, hs⟩ := V
  have hzq := LW_q hW
  have hA : ∀ q : Nat, s.heap.size ≤ q → (fun q : Nat => s.heap.size ≤ q) q := fun _ h => h
  have hbA : ¬ (fun q : Nat => s.heap.size ≤ q) b := Nat.not_le.mpr hbl
  have hn1 : vp_in (nI i + 1) L := by rw [show (1 : Int32) = nI 1 from rfl, nI_add]; exact vp_in_nI (by omega) (by omega)
  have hn2 : vp_in (nI i + 2) L := by rw [show (2 : Int32) = nI 2 from rfl, nI_add]; exact vp_in_nI (by omega) (by omega)
  have hn3 : vp_in (nI i + 3) L := by rw [show (3 : Int32) = nI 3 from rfl, nI_add]; exact vp_in_nI (by omega) (by omega)
  have hn4 : vp_in (nI i + 4) L := by rw [show (4 : Int32) = nI 4 from rfl, nI_add]; exact vp_in_nI (by omega) (by omega)
  refine lv_aload_n hx hb dL_law_531 rfl (lv_at hl 1 rfl) ?_
  refine lv_aload_n hx hb dL_law_532 rfl (lv_at hl 0 rfl) ?_
  refine lv_iload hx hb dL_law_533 (lv_at hl 4 rfl) ?_
  refine lv_iconst (v := 1) hx hb dL_law_535 (by decide) ?_
  refine lv_iadd hx hb dL_law_536 ?_
  refine va_sld hx hb hX hbl hbA hSt hn1 dL_law_537 ?_
  obtain ⟨rm1, mc1, ms1, f1, g1, rc1, rs1, bc1, bs1, hM1⟩ := lx_reduced (l := l) (ad := ad) (dC := dC) (dI := dI) (sz := H0.size) hS hW ((xs (nI i + 1).toNatClampNeg))
  obtain ⟨fx, hx0⟩ := LW_x hW
  refine LVl (As := [.int (xs (nI i + 1).toNatClampNeg)]) (rest := []) ⟨hx, hb, hml, hown, hts⟩ hM1 (cwV 1 hts gL_law_X6_reduced rfl rc1 rs1 qlX6_reduced ⟨Nat.succ_le_succ f1, Nat.le_trans (Nat.add_le_add_left g1 _) (Nat.le_of_ble_eq_true rfl)⟩) hE hK hP hD hSt hA 6 rfl rfl hx0 rfl hl.1 rfl (Nat.le_of_ble_eq_true rfl) dL_law_538 ⟨(by show cells + mc1 ≤ 601024; omega), (by show slots + ms1 ≤ 7293034; omega)⟩ (fun r1 σ1 w1 H1 locs1 hp1 hW1 hP1 hD1 hSt1 => ?_)
  obtain ⟨hC1, hS1, hq1, hq2⟩ := hp1
  have hzq1 := LW_q hW1
  refine lv_aload_n hx hb dL_law_541 rfl (lv_at hl 2 rfl) ?_
  refine lv_aload_n hx hb dL_law_542 rfl (lv_at hl 0 rfl) ?_
  refine lv_iload hx hb dL_law_543 (lv_at hl 4 rfl) ?_
  refine lv_iconst (v := 1) hx hb dL_law_545 (by decide) ?_
  refine lv_iadd hx hb dL_law_546 ?_
  refine va_sld hx hb hX hbl hbA hSt1 hn1 dL_law_547 ?_
  obtain ⟨rm2, f2, g2, rc2, rs2, hM2⟩ := ly_reduced (l := l) (ad := ad) (dC := dC) (dI := dI) (sz := H1.size) hS hW1 ((xs (nI i + 1).toNatClampNeg))
  obtain ⟨k2, fm, hm0⟩ := LW_m hW1
  refine LVl (As := [.int (xs (nI i + 1).toNatClampNeg)]) (rest := [.long r1]) ⟨hx, hb, hml, hown, hts⟩ hM2 (cwV 1 hts gL_law_X7_reduced rfl rc2 rs2 qlX7_reduced ⟨Nat.succ_le_succ f2, Nat.le_trans (Nat.add_le_add_left g2 _) (Nat.le_of_ble_eq_true rfl)⟩) hE hK hP1 hD1 hSt1 hA 7 rfl rfl hm0 rfl hl.1 rfl (Nat.le_of_ble_eq_true rfl) dL_law_548 ⟨(by show cells + mc1 + 0 ≤ 601024; omega), (by show slots + ms1 + 0 ≤ 7293034; omega)⟩ (fun r2 ζ2 w2 H2 locs2 hC2 hW2 hP2 hD2 hSt2 => ?_)
  obtain ⟨Ia, Ha, Ja, rb⟩ := ζ2
  obtain ⟨e1, e2, e3, e4⟩ := C_reduced_un hS hC1 hC2
  replace e2 : σ1.1 = Ia := e2
  replace e3 : σ1.2.1 = Ha := e3
  replace e4 : σ1.2.2.2.1 = Ja := e4
  subst e2 e3 e4
  refine W.lcmp hx hb dL_law_551 ?_
  refine lv_if_eq (tgt := 1161) hx hb dL_law_552 (by decide) (fun _ => ?_) (fun z => absurd ((lg_cmp_eq _ _).mpr e1) z)
  exact kk σ1 rb o w2 H2 locs2 ls _ _ ⟨hS1, hW2, hP2, hD2, hSt2, hl, by omega, by omega⟩
set_option maxHeartbeats 4000000 in
set_option maxRecDepth 100000 in
theorem lc_order {p : Program} {l : Launch} {e : Env} {s : State} {m : MethodId} {below : List Frame} {meth : Method} {c : Code} {b L : Nat} {xs : Nat → Int32} {ad : (Nat → Nat) × (Nat → Nat)} {dC : Nat → ClassId} {dI : Nat → Nat → Nat} {cy : Nat → ClassId} {a_x a_m a_o : Nat} {Q : State → Prop} {i : Nat} {I : ZI} {H : List ZL} {d : ZC} {J : Nat → Option ZI} {qc qt qf : Nat × Nat} {ra : Int32} {o : Nat → Int64} {w : va_W} {H0 : Heap} {locs : List Loc} {ls : Array Slot} {cells slots : Nat} (C : LCtx p s m c b L xs ad dC dI cy) (hi : i + 5 ≤ L) (hL : L ≤ 2560) (V : LInv s dC dI cy b a_x a_m a_o i i (I, H, d, J, qc, qt, qf) ra o w H0 locs ls cells slots)
    (kk : ∀ (σ' : ZS) (ra' : Int32) (o' : Nat → Int64) (w' : va_W) (H' : Heap) (locs' : List Loc) (ls' : Array Slot) (cells' slots' : Nat), LInv s dC dI cy b a_x a_m a_o i (i + 5) σ' ra' o' w' H' locs' ls' cells' slots' → W p l e room_1 s m #[Value.ref b] below meth c H' locs' cells' slots' Q (F0 m 1161 ls' [])) :
    W p l e room_1 s m #[Value.ref b] below meth c H0 locs cells slots Q (F0 m 557 ls []) := by
  obtain ⟨hx, hb, hml, hown, hts, ht1, hX, hbl, hK, hE, hEx⟩ := C
  obtain ⟨hS, hW, hP, hD, hSt, hl, hc, hs⟩ := V
  have hzq := LW_q hW
  have hA : ∀ q : Nat, s.heap.size ≤ q → (fun q : Nat => s.heap.size ≤ q) q := fun _ h => h
  have hbA : ¬ (fun q : Nat => s.heap.size ≤ q) b := Nat.not_le.mpr hbl
  have hn1 : vp_in (nI i + 1) L := by rw [show (1 : Int32) = nI 1 from rfl, nI_add]; exact vp_in_nI (by omega) (by omega)
  have hn2 : vp_in (nI i + 2) L := by rw [show (2 : Int32) = nI 2 from rfl, nI_add]; exact vp_in_nI (by omega) (by omega)
  have hn3 : vp_in (nI i + 3) L := by rw [show (3 : Int32) = nI 3 from rfl, nI_add]; exact vp_in_nI (by omega) (by omega)
  have hn4 : vp_in (nI i + 4) L := by rw [show (4 : Int32) = nI 4 from rfl, nI_add]; exact vp_in_nI (by omega) (by omega)
  refine lv_aload_n hx hb dL_law_557 rfl (lv_at hl 1 rfl) ?_
  refine lv_aload_n hx hb dL_law_558 rfl (lv_at hl 0 rfl) ?_
  refine lv_iload hx hb dL_law_559 (lv_at hl 4 rfl) ?_
  refine lv_iconst (v := 1) hx hb dL_law_561 (by decide) ?_
  refine lv_iadd hx hb dL_law_562 ?_
  refine va_sld hx hb hX hbl hbA hSt hn1 dL_law_563 ?_
  obtain ⟨rm1, mc1, ms1, f1, g1, rc1, rs1, bc1, bs1, hM1⟩ := lx_order (l := l) (ad := ad) (dC := dC) (dI := dI) (sz := H0.size) hS hW ((xs (nI i + 1).toNatClampNeg))
  obtain ⟨fx, hx0⟩ := LW_x hW
  refine LVi (As := [.int (xs (nI i + 1).toNatClampNeg)]) (rest := []) ⟨hx, hb, hml, hown, hts⟩ hM1 (cwV 1 hts gL_law_X6_order rfl rc1 rs1 qlX6_order ⟨Nat.succ_le_succ f1, Nat.le_trans (Nat.add_le_add_left g1 _) (Nat.le_of_ble_eq_true rfl)⟩) hE hK hP hD hSt hA 6 rfl rfl hx0 rfl hl.1 rfl (Nat.le_of_ble_eq_true rfl) dL_law_564 ⟨(by show cells + mc1 ≤ 601024; omega), (by show slots + ms1 ≤ 7293034; omega)⟩ (fun r1 σ1 w1 H1 locs1 hp1 hW1 hP1 hD1 hSt1 => ?_)
  obtain ⟨hC1, hS1, hq1, hq2⟩ := hp1
  have hzq1 := LW_q hW1
  refine lv_aload_n hx hb dL_law_567 rfl (lv_at hl 2 rfl) ?_
  refine lv_aload_n hx hb dL_law_568 rfl (lv_at hl 0 rfl) ?_
  refine lv_iload hx hb dL_law_569 (lv_at hl 4 rfl) ?_
  refine lv_iconst (v := 1) hx hb dL_law_571 (by decide) ?_
  refine lv_iadd hx hb dL_law_572 ?_
  refine va_sld hx hb hX hbl hbA hSt1 hn1 dL_law_573 ?_
  obtain ⟨rm2, f2, g2, rc2, rs2, hM2⟩ := ly_order (l := l) (ad := ad) (dC := dC) (dI := dI) (sz := H1.size) hS hW1 ((xs (nI i + 1).toNatClampNeg))
  obtain ⟨k2, fm, hm0⟩ := LW_m hW1
  refine LVi (As := [.int (xs (nI i + 1).toNatClampNeg)]) (rest := [.int r1]) ⟨hx, hb, hml, hown, hts⟩ hM2 (cwV 1 hts gL_law_X7_order rfl rc2 rs2 qlX7_order ⟨Nat.succ_le_succ f2, Nat.le_trans (Nat.add_le_add_left g2 _) (Nat.le_of_ble_eq_true rfl)⟩) hE hK hP1 hD1 hSt1 hA 7 rfl rfl hm0 rfl hl.1 rfl (Nat.le_of_ble_eq_true rfl) dL_law_574 ⟨(by show cells + mc1 + 0 ≤ 601024; omega), (by show slots + ms1 + 0 ≤ 7293034; omega)⟩ (fun r2 ζ2 w2 H2 locs2 hC2 hW2 hP2 hD2 hSt2 => ?_)
  obtain ⟨Ia, Ha, Ja, rb⟩ := ζ2
  obtain ⟨e1, e2, e3, e4⟩ := C_order_un hS hC1 hC2
  replace e2 : σ1.1 = Ia := e2
  replace e3 : σ1.2.1 = Ha := e3
  replace e4 : σ1.2.2.2.1 = Ja := e4
  subst e2 e3 e4
  refine lv_icmp_eq (tgt := 1161) hx hb dL_law_577 (by decide) (fun _ => ?_) (fun z => absurd e1 z)
  exact kk σ1 rb o w2 H2 locs2 ls _ _ ⟨hS1, hW2, hP2, hD2, hSt2, hl, by omega, by omega⟩
set_option maxHeartbeats 4000000 in
set_option maxRecDepth 100000 in
theorem lc_best {p : Program} {l : Launch} {e : Env} {s : State} {m : MethodId} {below : List Frame} {meth : Method} {c : Code} {b L : Nat} {xs : Nat → Int32} {ad : (Nat → Nat) × (Nat → Nat)} {dC : Nat → ClassId} {dI : Nat → Nat → Nat} {cy : Nat → ClassId} {a_x a_m a_o : Nat} {Q : State → Prop} {i : Nat} {I : ZI} {H : List ZL} {d : ZC} {J : Nat → Option ZI} {qc qt qf : Nat × Nat} {ra : Int32} {o : Nat → Int64} {w : va_W} {H0 : Heap} {locs : List Loc} {ls : Array Slot} {cells slots : Nat} (C : LCtx p s m c b L xs ad dC dI cy) (hi : i + 5 ≤ L) (hL : L ≤ 2560) (V : LInv s dC dI cy b a_x a_m a_o i i (I, H, d, J, qc, qt, qf) ra o w H0 locs ls cells slots)
    (kk : ∀ (σ' : ZS) (ra' : Int32) (o' : Nat → Int64) (w' : va_W) (H' : Heap) (locs' : List Loc) (ls' : Array Slot) (cells' slots' : Nat), LInv s dC dI cy b a_x a_m a_o i (i + 5) σ' ra' o' w' H' locs' ls' cells' slots' → W p l e room_1 s m #[Value.ref b] below meth c H' locs' cells' slots' Q (F0 m 1161 ls' [])) :
    W p l e room_1 s m #[Value.ref b] below meth c H0 locs cells slots Q (F0 m 649 ls []) := by
  obtain ⟨hx, hb, hml, hown, hts, ht1, hX, hbl, hK, hE, hEx⟩ := C
  obtain ⟨hS, hW, hP, hD, hSt, hl, hc, hs⟩ := V
  have hzq := LW_q hW
  have hA : ∀ q : Nat, s.heap.size ≤ q → (fun q : Nat => s.heap.size ≤ q) q := fun _ h => h
  have hbA : ¬ (fun q : Nat => s.heap.size ≤ q) b := Nat.not_le.mpr hbl
  have hn1 : vp_in (nI i + 1) L := by rw [show (1 : Int32) = nI 1 from rfl, nI_add]; exact vp_in_nI (by omega) (by omega)
  have hn2 : vp_in (nI i + 2) L := by rw [show (2 : Int32) = nI 2 from rfl, nI_add]; exact vp_in_nI (by omega) (by omega)
  have hn3 : vp_in (nI i + 3) L := by rw [show (3 : Int32) = nI 3 from rfl, nI_add]; exact vp_in_nI (by omega) (by omega)
  have hn4 : vp_in (nI i + 4) L := by rw [show (4 : Int32) = nI 4 from rfl, nI_add]; exact vp_in_nI (by omega) (by omega)
  refine lv_aload_n hx hb dL_law_649 rfl (lv_at hl 1 rfl) ?_
  obtain ⟨rm1, mc1, ms1, f1, g1, rc1, rs1, bc1, bs1, hM1⟩ := lx_best (l := l) (ad := ad) (dC := dC) (dI := dI) (sz := H0.size) hS hW 
  obtain ⟨fx, hx0⟩ := LW_x hW
  refine LVl (As := []) (rest := []) ⟨hx, hb, hml, hown, hts⟩ hM1 (cwV 0 hts gL_law_X6_best rfl rc1 rs1 qlX6_best ⟨Nat.succ_le_succ f1, Nat.le_trans (Nat.add_le_add_left g1 _) (Nat.le_of_ble_eq_true rfl)⟩) hE hK hP hD hSt hA 6 rfl rfl hx0 rfl hl.1 rfl (Nat.le_of_ble_eq_true rfl) dL_law_650 ⟨(by show cells + mc1 ≤ 601024; omega), (by show slots + ms1 ≤ 7293034; omega)⟩ (fun r1 σ1 w1 H1 locs1 hp1 hW1 hP1 hD1 hSt1 => ?_)
  obtain ⟨hC1, hS1, hq1, hq2⟩ := hp1
  have hzq1 := LW_q hW1
  refine lv_aload_n hx hb dL_law_653 rfl (lv_at hl 2 rfl) ?_
  obtain ⟨rm2, f2, g2, rc2, rs2, hM2⟩ := ly_best (l := l) (ad := ad) (dC := dC) (dI := dI) (sz := H1.size) hS hW1 
  obtain ⟨k2, fm, hm0⟩ := LW_m hW1
  refine LVl (As := []) (rest := [.long r1]) ⟨hx, hb, hml, hown, hts⟩ hM2 (cwV 0 hts gL_law_X7_best rfl rc2 rs2 qlX7_best ⟨Nat.succ_le_succ f2, Nat.le_trans (Nat.add_le_add_left g2 _) (Nat.le_of_ble_eq_true rfl)⟩) hE hK hP1 hD1 hSt1 hA 7 rfl rfl hm0 rfl hl.1 rfl (Nat.le_of_ble_eq_true rfl) dL_law_654 ⟨(by show cells + mc1 + 0 ≤ 601024; omega), (by show slots + ms1 + 0 ≤ 7293034; omega)⟩ (fun r2 ζ2 w2 H2 locs2 hC2 hW2 hP2 hD2 hSt2 => ?_)
  obtain ⟨Ia, Ha, Ja, rb⟩ := ζ2
  obtain ⟨e1, e2, e3, e4⟩ := C_best_un hS hC1 hC2
  replace e2 : σ1.1 = Ia := e2
  replace e3 : σ1.2.1 = Ha := e3
  replace e4 : σ1.2.2.2.1 = Ja := e4
  subst e2 e3 e4
  refine W.lcmp hx hb dL_law_657 ?_
  refine lv_if_eq (tgt := 1161) hx hb dL_law_658 (by decide) (fun _ => ?_) (fun z => absurd ((lg_cmp_eq _ _).mpr e1) z)
  exact kk σ1 rb o w2 H2 locs2 ls _ _ ⟨hS1, hW2, hP2, hD2, hSt2, hl, by omega, by omega⟩
set_option maxHeartbeats 4000000 in
set_option maxRecDepth 100000 in
theorem lc_share {p : Program} {l : Launch} {e : Env} {s : State} {m : MethodId} {below : List Frame} {meth : Method} {c : Code} {b L : Nat} {xs : Nat → Int32} {ad : (Nat → Nat) × (Nat → Nat)} {dC : Nat → ClassId} {dI : Nat → Nat → Nat} {cy : Nat → ClassId} {a_x a_m a_o : Nat} {Q : State → Prop} {i : Nat} {I : ZI} {H : List ZL} {d : ZC} {J : Nat → Option ZI} {qc qt qf : Nat × Nat} {ra : Int32} {o : Nat → Int64} {w : va_W} {H0 : Heap} {locs : List Loc} {ls : Array Slot} {cells slots : Nat} (C : LCtx p s m c b L xs ad dC dI cy) (hi : i + 5 ≤ L) (hL : L ≤ 2560) (V : LInv s dC dI cy b a_x a_m a_o i i (I, H, d, J, qc, qt, qf) ra o w H0 locs ls cells slots)
    (kk : ∀ (σ' : ZS) (ra' : Int32) (o' : Nat → Int64) (w' : va_W) (H' : Heap) (locs' : List Loc) (ls' : Array Slot) (cells' slots' : Nat), LInv s dC dI cy b a_x a_m a_o i (i + 5) σ' ra' o' w' H' locs' ls' cells' slots' → W p l e room_1 s m #[Value.ref b] below meth c H' locs' cells' slots' Q (F0 m 1161 ls' [])) :
    W p l e room_1 s m #[Value.ref b] below meth c H0 locs cells slots Q (F0 m 663 ls []) := by
  obtain ⟨hx, hb, hml, hown, hts, ht1, hX, hbl, hK, hE, hEx⟩ := C
  obtain ⟨hS, hW, hP, hD, hSt, hl, hc, hs⟩ := V
  have hzq := LW_q hW
  have hA : ∀ q : Nat, s.heap.size ≤ q → (fun q : Nat => s.heap.size ≤ q) q := fun _ h => h
  have hbA : ¬ (fun q : Nat => s.heap.size ≤ q) b := Nat.not_le.mpr hbl
  have hn1 : vp_in (nI i + 1) L := by rw [show (1 : Int32) = nI 1 from rfl, nI_add]; exact vp_in_nI (by omega) (by omega)
  have hn2 : vp_in (nI i + 2) L := by rw [show (2 : Int32) = nI 2 from rfl, nI_add]; exact vp_in_nI (by omega) (by omega)
  have hn3 : vp_in (nI i + 3) L := by rw [show (3 : Int32) = nI 3 from rfl, nI_add]; exact vp_in_nI (by omega) (by omega)
  have hn4 : vp_in (nI i + 4) L := by rw [show (4 : Int32) = nI 4 from rfl, nI_add]; exact vp_in_nI (by omega) (by omega)
  refine lv_aload_n hx hb dL_law_663 rfl (lv_at hl 1 rfl) ?_
  refine lv_aload_n hx hb dL_law_664 rfl (lv_at hl 0 rfl) ?_
  refine lv_iload hx hb dL_law_665 (lv_at hl 4 rfl) ?_
  refine lv_iconst (v := 1) hx hb dL_law_667 (by decide) ?_
  refine lv_iadd hx hb dL_law_668 ?_
  refine va_sld hx hb hX hbl hbA hSt hn1 dL_law_669 ?_
  obtain ⟨rm1, mc1, ms1, f1, g1, rc1, rs1, bc1, bs1, hM1⟩ := lx_share (l := l) (ad := ad) (dC := dC) (dI := dI) (sz := H0.size) hS hW ((xs (nI i + 1).toNatClampNeg))
  obtain ⟨fx, hx0⟩ := LW_x hW
  refine LVi (As := [.int (xs (nI i + 1).toNatClampNeg)]) (rest := []) ⟨hx, hb, hml, hown, hts⟩ hM1 (cwV 1 hts gL_law_X6_share rfl rc1 rs1 qlX6_share ⟨Nat.succ_le_succ f1, Nat.le_trans (Nat.add_le_add_left g1 _) (Nat.le_of_ble_eq_true rfl)⟩) hE hK hP hD hSt hA 6 rfl rfl hx0 rfl hl.1 rfl (Nat.le_of_ble_eq_true rfl) dL_law_670 ⟨(by show cells + mc1 ≤ 601024; omega), (by show slots + ms1 ≤ 7293034; omega)⟩ (fun r1 σ1 w1 H1 locs1 hp1 hW1 hP1 hD1 hSt1 => ?_)
  obtain ⟨hC1, hS1, hq1, hq2⟩ := hp1
  have hzq1 := LW_q hW1
  refine lv_aload_n hx hb dL_law_673 rfl (lv_at hl 2 rfl) ?_
  refine lv_aload_n hx hb dL_law_674 rfl (lv_at hl 0 rfl) ?_
  refine lv_iload hx hb dL_law_675 (lv_at hl 4 rfl) ?_
  refine lv_iconst (v := 1) hx hb dL_law_677 (by decide) ?_
  refine lv_iadd hx hb dL_law_678 ?_
  refine va_sld hx hb hX hbl hbA hSt1 hn1 dL_law_679 ?_
  obtain ⟨rm2, f2, g2, rc2, rs2, hM2⟩ := ly_share (l := l) (ad := ad) (dC := dC) (dI := dI) (sz := H1.size) hS hW1 ((xs (nI i + 1).toNatClampNeg))
  obtain ⟨k2, fm, hm0⟩ := LW_m hW1
  refine LVi (As := [.int (xs (nI i + 1).toNatClampNeg)]) (rest := [.int r1]) ⟨hx, hb, hml, hown, hts⟩ hM2 (cwV 1 hts gL_law_X7_share rfl rc2 rs2 qlX7_share ⟨Nat.succ_le_succ f2, Nat.le_trans (Nat.add_le_add_left g2 _) (Nat.le_of_ble_eq_true rfl)⟩) hE hK hP1 hD1 hSt1 hA 7 rfl rfl hm0 rfl hl.1 rfl (Nat.le_of_ble_eq_true rfl) dL_law_680 ⟨(by show cells + mc1 + 0 ≤ 601024; omega), (by show slots + ms1 + 0 ≤ 7293034; omega)⟩ (fun r2 ζ2 w2 H2 locs2 hC2 hW2 hP2 hD2 hSt2 => ?_)
  obtain ⟨Ia, Ha, Ja, rb⟩ := ζ2
  obtain ⟨e1, e2, e3, e4⟩ := C_share_un hS hC1 hC2
  replace e2 : σ1.1 = Ia := e2
  replace e3 : σ1.2.1 = Ha := e3
  replace e4 : σ1.2.2.2.1 = Ja := e4
  subst e2 e3 e4
  refine lv_icmp_eq (tgt := 1161) hx hb dL_law_683 (by decide) (fun _ => ?_) (fun z => absurd e1 z)
  exact kk σ1 rb o w2 H2 locs2 ls _ _ ⟨hS1, hW2, hP2, hD2, hSt2, hl, by omega, by omega⟩
