set_option maxHeartbeats 4000000 in
set_option maxRecDepth 100000 in
theorem lc_add {p : Program} {l : Launch} {e : Env} {s : State} {m : MethodId} {below : List Frame} {meth : Method} {c : Code} {b L : Nat} {xs : Nat → Int32} {ad : (Nat → Nat) × (Nat → Nat)} {dC : Nat → ClassId} {dI : Nat → Nat → Nat} {cy : Nat → ClassId} {a_x a_m a_o : Nat} {Q : State → Prop} {i : Nat} {I : ZI} {H : List ZL} {d : ZC} {J : Nat → Option ZI} {qc qt qf : Nat × Nat} {ra : Int32} {o : Nat → Int64} {w : va_W} {H0 : Heap} {locs : List Loc} {ls : Array Slot} {cells slots : Nat} (C : LCtx p s m c b L xs ad dC dI cy) (hi : i + 5 ≤ L) (hL : L ≤ 2560) (V : LInv s dC dI cy b a_x a_m a_o i i (I, H, d, J, qc, qt, qf) ra o w H0 locs ls cells slots)
    (kk : ∀ (σ' : ZS) (ra' : Int32) (o' : Nat → Int64) (w' : va_W) (H' : Heap) (locs' : List Loc) (ls' : Array Slot) (cells' slots' : Nat), LInv s dC dI cy b a_x a_m a_o i (i + 5) σ' ra' o' w' H' locs' ls' cells' slots' → W p l e room_1 s m #[Value.ref b] below meth c H' locs' cells' slots' Q (F0 m 1161 ls' [])) :
    W p l e room_1 s m #[Value.ref b] below meth c H0 locs cells slots Q (F0 m 337 ls []) := by
  obtain ⟨hx, hb, hml, hown, hts, ht1, hX, hbl, hK, hE, hEx⟩ := C
  obtain ⟨hS, hW, hP, hD, hSt, hl, hc, hs⟩ := V
  have hzq := LW_q hW
  have hA : ∀ q : Nat, s.heap.size ≤ q → (fun q : Nat => s.heap.size ≤ q) q := fun _ h => h
  have hbA : ¬ (fun q : Nat => s.heap.size ≤ q) b := Nat.not_le.mpr hbl
  have hn1 : vp_in (nI i + 1) L := by rw [show (1 : Int32) = nI 1 from rfl, nI_add]; exact vp_in_nI (by omega) (by omega)
  have hn2 : vp_in (nI i + 2) L := by rw [show (2 : Int32) = nI 2 from rfl, nI_add]; exact vp_in_nI (by omega) (by omega)
  have hn3 : vp_in (nI i + 3) L := by rw [show (3 : Int32) = nI 3 from rfl, nI_add]; exact vp_in_nI (by omega) (by omega)
  have hn4 : vp_in (nI i + 4) L := by rw [show (4 : Int32) = nI 4 from rfl, nI_add]; exact vp_in_nI (by omega) (by omega)
  refine lv_aload_n hx hb dL_law_337 rfl (lv_at hl 1 rfl) ?_
  refine lv_aload_n hx hb dL_law_338 rfl (lv_at hl 0 rfl) ?_
  refine lv_iload hx hb dL_law_339 (lv_at hl 4 rfl) ?_
  refine lv_iconst (v := 1) hx hb dL_law_341 (by decide) ?_
  refine lv_iadd hx hb dL_law_342 ?_
  refine va_sld hx hb hX hbl hbA hSt hn1 dL_law_343 ?_
  refine lv_aload_n hx hb dL_law_344 rfl (lv_at hl 0 rfl) ?_
  refine lv_iload hx hb dL_law_345 (lv_at hl 4 rfl) ?_
  refine lv_iconst (v := 2) hx hb dL_law_347 (by decide) ?_
  refine lv_iadd hx hb dL_law_348 ?_
  refine va_sld hx hb hX hbl hbA hSt hn2 dL_law_349 ?_
  obtain ⟨rm1, mc1, ms1, f1, g1, rc1, rs1, bc1, bs1, hM1⟩ := lx_add (l := l) (ad := ad) (dC := dC) (dI := dI) (sz := H0.size) hS hW ((xs (nI i + 1).toNatClampNeg)) ((xs (nI i + 2).toNatClampNeg))
  obtain ⟨fx, hx0⟩ := LW_x hW
  refine LVi (As := [.int (xs (nI i + 1).toNatClampNeg), .int (xs (nI i + 2).toNatClampNeg)]) (rest := []) ⟨hx, hb, hml, hown, hts⟩ hM1 (cwV 2 hts gL_law_X6_add rfl rc1 rs1 qlX6_add ⟨Nat.succ_le_succ f1, Nat.le_trans (Nat.add_le_add_left g1 _) (Nat.le_of_ble_eq_true rfl)⟩) hE hK hP hD hSt hA 6 rfl rfl hx0 rfl hl.1 rfl (Nat.le_of_ble_eq_true rfl) dL_law_350 ⟨(by show cells + mc1 ≤ 601024; omega), (by show slots + ms1 ≤ 7293034; omega)⟩ (fun r1 σ1 w1 H1 locs1 hp1 hW1 hP1 hD1 hSt1 => ?_)
  obtain ⟨hC1, hS1, hq1, hq2⟩ := hp1
  have hzq1 := LW_q hW1
  refine lv_aload_n hx hb dL_law_353 rfl (lv_at hl 2 rfl) ?_
  refine lv_aload_n hx hb dL_law_354 rfl (lv_at hl 0 rfl) ?_
  refine lv_iload hx hb dL_law_355 (lv_at hl 4 rfl) ?_
  refine lv_iconst (v := 1) hx hb dL_law_357 (by decide) ?_
  refine lv_iadd hx hb dL_law_358 ?_
  refine va_sld hx hb hX hbl hbA hSt1 hn1 dL_law_359 ?_
  refine lv_aload_n hx hb dL_law_360 rfl (lv_at hl 0 rfl) ?_
  refine lv_iload hx hb dL_law_361 (lv_at hl 4 rfl) ?_
  refine lv_iconst (v := 2) hx hb dL_law_363 (by decide) ?_
  refine lv_iadd hx hb dL_law_364 ?_
  refine va_sld hx hb hX hbl hbA hSt1 hn2 dL_law_365 ?_
  obtain ⟨rm2, f2, g2, rc2, rs2, hM2⟩ := ly_add (l := l) (ad := ad) (dC := dC) (dI := dI) (sz := H1.size) hS hW1 ((xs (nI i + 1).toNatClampNeg)) ((xs (nI i + 2).toNatClampNeg))
  obtain ⟨k2, fm, hm0⟩ := LW_m hW1
  refine LVi (As := [.int (xs (nI i + 1).toNatClampNeg), .int (xs (nI i + 2).toNatClampNeg)]) (rest := [.int r1]) ⟨hx, hb, hml, hown, hts⟩ hM2 (cwV 2 hts gL_law_X7_add rfl rc2 rs2 qlX7_add ⟨Nat.succ_le_succ f2, Nat.le_trans (Nat.add_le_add_left g2 _) (Nat.le_of_ble_eq_true rfl)⟩) hE hK hP1 hD1 hSt1 hA 7 rfl rfl hm0 rfl hl.1 rfl (Nat.le_of_ble_eq_true rfl) dL_law_366 ⟨(by show cells + mc1 + 0 ≤ 601024; omega), (by show slots + ms1 + 0 ≤ 7293034; omega)⟩ (fun r2 ζ2 w2 H2 locs2 hC2 hW2 hP2 hD2 hSt2 => ?_)
  obtain ⟨Ia, Ha, Ja, rb⟩ := ζ2
  obtain ⟨e1, e2, e3, e4⟩ := C_add_un hS hC1 hC2
  replace e2 : σ1.1 = Ia := e2
  replace e3 : σ1.2.1 = Ha := e3
  replace e4 : σ1.2.2.2.1 = Ja := e4
  subst e2 e3 e4
  refine lv_icmp_eq (tgt := 1161) hx hb dL_law_369 (by decide) (fun _ => ?_) (fun z => absurd e1 z)
  exact kk σ1 rb o w2 H2 locs2 ls _ _ ⟨hS1, hW2, hP2, hD2, hSt2, hl, by omega, by omega⟩
set_option maxHeartbeats 4000000 in
set_option maxRecDepth 100000 in
theorem lc_drop {p : Program} {l : Launch} {e : Env} {s : State} {m : MethodId} {below : List Frame} {meth : Method} {c : Code} {b L : Nat} {xs : Nat → Int32} {ad : (Nat → Nat) × (Nat → Nat)} {dC : Nat → ClassId} {dI : Nat → Nat → Nat} {cy : Nat → ClassId} {a_x a_m a_o : Nat} {Q : State → Prop} {i : Nat} {I : ZI} {H : List ZL} {d : ZC} {J : Nat → Option ZI} {qc qt qf : Nat × Nat} {ra : Int32} {o : Nat → Int64} {w : va_W} {H0 : Heap} {locs : List Loc} {ls : Array Slot} {cells slots : Nat} (C : LCtx p s m c b L xs ad dC dI cy) (hi : i + 5 ≤ L) (hL : L ≤ 2560) (V : LInv s dC dI cy b a_x a_m a_o i i (I, H, d, J, qc, qt, qf) ra o w H0 locs ls cells slots)
    (kk : ∀ (σ' : ZS) (ra' : Int32) (o' : Nat → Int64) (w' : va_W) (H' : Heap) (locs' : List Loc) (ls' : Array Slot) (cells' slots' : Nat), LInv s dC dI cy b a_x a_m a_o i (i + 5) σ' ra' o' w' H' locs' ls' cells' slots' → W p l e room_1 s m #[Value.ref b] below meth c H' locs' cells' slots' Q (F0 m 1161 ls' [])) :
    W p l e room_1 s m #[Value.ref b] below meth c H0 locs cells slots Q (F0 m 374 ls []) := by
  obtain ⟨hx, hb, hml, hown, hts, ht1, hX, hbl, hK, hE, hEx⟩ := C
  obtain ⟨hS, hW, hP, hD, hSt, hl, hc, hs⟩ := V
  have hzq := LW_q hW
  have hA : ∀ q : Nat, s.heap.size ≤ q → (fun q : Nat => s.heap.size ≤ q) q := fun _ h => h
  have hbA : ¬ (fun q : Nat => s.heap.size ≤ q) b := Nat.not_le.mpr hbl
  have hn1 : vp_in (nI i + 1) L := by rw [show (1 : Int32) = nI 1 from rfl, nI_add]; exact vp_in_nI (by omega) (by omega)
  have hn2 : vp_in (nI i + 2) L := by rw [show (2 : Int32) = nI 2 from rfl, nI_add]; exact vp_in_nI (by omega) (by omega)
  have hn3 : vp_in (nI i + 3) L := by rw [show (3 : Int32) = nI 3 from rfl, nI_add]; exact vp_in_nI (by omega) (by omega)
  have hn4 : vp_in (nI i + 4) L := by rw [show (4 : Int32) = nI 4 from rfl, nI_add]; exact vp_in_nI (by omega) (by omega)
  refine lv_aload_n hx hb dL_law_374 rfl (lv_at hl 1 rfl) ?_
  refine lv_aload_n hx hb dL_law_375 rfl (lv_at hl 0 rfl) ?_
  refine lv_iload hx hb dL_law_376 (lv_at hl 4 rfl) ?_
  refine lv_iconst (v := 1) hx hb dL_law_378 (by decide) ?_
  refine lv_iadd hx hb dL_law_379 ?_
  refine va_sld hx hb hX hbl hbA hSt hn1 dL_law_380 ?_
  obtain ⟨rm1, mc1, ms1, f1, g1, rc1, rs1, bc1, bs1, hM1⟩ := lx_drop (l := l) (ad := ad) (dC := dC) (dI := dI) (sz := H0.size) hS hW ((xs (nI i + 1).toNatClampNeg))
  obtain ⟨fx, hx0⟩ := LW_x hW
  refine LVi (As := [.int (xs (nI i + 1).toNatClampNeg)]) (rest := []) ⟨hx, hb, hml, hown, hts⟩ hM1 (cwV 1 hts gL_law_X6_drop rfl rc1 rs1 qlX6_drop ⟨Nat.succ_le_succ f1, Nat.le_trans (Nat.add_le_add_left g1 _) (Nat.le_of_ble_eq_true rfl)⟩) hE hK hP hD hSt hA 6 rfl rfl hx0 rfl hl.1 rfl (Nat.le_of_ble_eq_true rfl) dL_law_381 ⟨(by show cells + mc1 ≤ 601024; omega), (by show slots + ms1 ≤ 7293034; omega)⟩ (fun r1 σ1 w1 H1 locs1 hp1 hW1 hP1 hD1 hSt1 => ?_)
  obtain ⟨hC1, hS1, hq1, hq2⟩ := hp1
  have hzq1 := LW_q hW1
  refine lv_aload_n hx hb dL_law_384 rfl (lv_at hl 2 rfl) ?_
  refine lv_aload_n hx hb dL_law_385 rfl (lv_at hl 0 rfl) ?_
  refine lv_iload hx hb dL_law_386 (lv_at hl 4 rfl) ?_
  refine lv_iconst (v := 1) hx hb dL_law_388 (by decide) ?_
  refine lv_iadd hx hb dL_law_389 ?_
  refine va_sld hx hb hX hbl hbA hSt1 hn1 dL_law_390 ?_
  obtain ⟨rm2, f2, g2, rc2, rs2, hM2⟩ := ly_drop (l := l) (ad := ad) (dC := dC) (dI := dI) (sz := H1.size) hS hW1 ((xs (nI i + 1).toNatClampNeg))
  obtain ⟨k2, fm, hm0⟩ := LW_m hW1
  refine LVi (As := [.int (xs (nI i + 1).toNatClampNeg)]) (rest := [.int r1]) ⟨hx, hb, hml, hown, hts⟩ hM2 (cwV 1 hts gL_law_X7_drop rfl rc2 rs2 qlX7_drop ⟨Nat.succ_le_succ f2, Nat.le_trans (Nat.add_le_add_left g2 _) (Nat.le_of_ble_eq_true rfl)⟩) hE hK hP1 hD1 hSt1 hA 7 rfl rfl hm0 rfl hl.1 rfl (Nat.le_of_ble_eq_true rfl) dL_law_391 ⟨(by show cells + mc1 + 0 ≤ 601024; omega), (by show slots + ms1 + 0 ≤ 7293034; omega)⟩ (fun r2 ζ2 w2 H2 locs2 hC2 hW2 hP2 hD2 hSt2 => ?_)
  obtain ⟨Ia, Ha, Ja, rb⟩ := ζ2
  obtain ⟨e1, e2, e3, e4⟩ := C_drop_un hS hC1 hC2
  replace e2 : σ1.1 = Ia := e2
  replace e3 : σ1.2.1 = Ha := e3
  replace e4 : σ1.2.2.2.1 = Ja := e4
  subst e2 e3 e4
  refine lv_icmp_eq (tgt := 1161) hx hb dL_law_394 (by decide) (fun _ => ?_) (fun z => absurd e1 z)
  exact kk σ1 rb o w2 H2 locs2 ls _ _ ⟨hS1, hW2, hP2, hD2, hSt2, hl, by omega, by omega⟩
set_option maxHeartbeats 4000000 in
set_option maxRecDepth 100000 in
theorem lc_step {p : Program} {l : Launch} {e : Env} {s : State} {m : MethodId} {below : List Frame} {meth : Method} {c : Code} {b L : Nat} {xs : Nat → Int32} {ad : (Nat → Nat) × (Nat → Nat)} {dC : Nat → ClassId} {dI : Nat → Nat → Nat} {cy : Nat → ClassId} {a_x a_m a_o : Nat} {Q : State → Prop} {i : Nat} {I : ZI} {H : List ZL} {d : ZC} {J : Nat → Option ZI} {qc qt qf : Nat × Nat} {ra : Int32} {o : Nat → Int64} {w : va_W} {H0 : Heap} {locs : List Loc} {ls : Array Slot} {cells slots : Nat} (C : LCtx p s m c b L xs ad dC dI cy) (hi : i + 5 ≤ L) (hL : L ≤ 2560) (V : LInv s dC dI cy b a_x a_m a_o i i (I, H, d, J, qc, qt, qf) ra o w H0 locs ls cells slots)
    (kk : ∀ (σ' : ZS) (ra' : Int32) (o' : Nat → Int64) (w' : va_W) (H' : Heap) (locs' : List Loc) (ls' : Array Slot) (cells' slots' : Nat), LInv s dC dI cy b a_x a_m a_o i (i + 5) σ' ra' o' w' H' locs' ls' cells' slots' → W p l e room_1 s m #[Value.ref b] below meth c H' locs' cells' slots' Q (F0 m 1161 ls' [])) :
    W p l e room_1 s m #[Value.ref b] below meth c H0 locs cells slots Q (F0 m 399 ls []) := by
  obtain ⟨hx, hb, hml, hown, hts, ht1, hX, hbl, hK, hE, hEx⟩ := C
  obtain ⟨hS, hW, hP, hD, hSt, hl, hc, hs⟩ := V
  have hzq := LW_q hW
  have hA : ∀ q : Nat, s.heap.size ≤ q → (fun q : Nat => s.heap.size ≤ q) q := fun _ h => h
  have hbA : ¬ (fun q : Nat => s.heap.size ≤ q) b := Nat.not_le.mpr hbl
  have hn1 : vp_in (nI i + 1) L := by rw [show (1 : Int32) = nI 1 from rfl, nI_add]; exact vp_in_nI (by omega) (by omega)
  have hn2 : vp_in (nI i + 2) L := by rw [show (2 : Int32) = nI 2 from rfl, nI_add]; exact vp_in_nI (by omega) (by omega)
  have hn3 : vp_in (nI i + 3) L := by rw [show (3 : Int32) = nI 3 from rfl, nI_add]; exact vp_in_nI (by omega) (by omega)
  have hn4 : vp_in (nI i + 4) L := by rw [show (4 : Int32) = nI 4 from rfl, nI_add]; exact vp_in_nI (by omega) (by omega)
  refine lv_aload_n hx hb dL_law_399 rfl (lv_at hl 1 rfl) ?_
  obtain ⟨rm1, mc1, ms1, f1, g1, rc1, rs1, bc1, bs1, hM1⟩ := lx_step (l := l) (ad := ad) (dC := dC) (dI := dI) (sz := H0.size) hS hW 
  obtain ⟨fx, hx0⟩ := LW_x hW
  refine LVi (As := []) (rest := []) ⟨hx, hb, hml, hown, hts⟩ hM1 (cwV 0 hts gL_law_X6_step rfl rc1 rs1 qlX6_step ⟨Nat.succ_le_succ f1, Nat.le_trans (Nat.add_le_add_left g1 _) (Nat.le_of_ble_eq_true rfl)⟩) hE hK hP hD hSt hA 6 rfl rfl hx0 rfl hl.1 rfl (Nat.le_of_ble_eq_true rfl) dL_law_400 ⟨(by show cells + mc1 ≤ 601024; omega), (by show slots + ms1 ≤ 7293034; omega)⟩ (fun r1 σ1 w1 H1 locs1 hp1 hW1 hP1 hD1 hSt1 => ?_)
  obtain ⟨hC1, hS1, hq1, hq2⟩ := hp1
  have hzq1 := LW_q hW1
  refine lv_aload_n hx hb dL_law_403 rfl (lv_at hl 2 rfl) ?_
  obtain ⟨rm2, f2, g2, rc2, rs2, hM2⟩ := ly_step (l := l) (ad := ad) (dC := dC) (dI := dI) (sz := H1.size) hS hW1 
  obtain ⟨k2, fm, hm0⟩ := LW_m hW1
  refine LVi (As := []) (rest := [.int r1]) ⟨hx, hb, hml, hown, hts⟩ hM2 (cwV 0 hts gL_law_X7_step rfl rc2 rs2 qlX7_step ⟨Nat.succ_le_succ f2, Nat.le_trans (Nat.add_le_add_left g2 _) (Nat.le_of_ble_eq_true rfl)⟩) hE hK hP1 hD1 hSt1 hA 7 rfl rfl hm0 rfl hl.1 rfl (Nat.le_of_ble_eq_true rfl) dL_law_404 ⟨(by show cells + mc1 + 0 ≤ 601024; omega), (by show slots + ms1 + 0 ≤ 7293034; omega)⟩ (fun r2 ζ2 w2 H2 locs2 hC2 hW2 hP2 hD2 hSt2 => ?_)
  obtain ⟨Ia, Ha, Ja, rb⟩ := ζ2
  obtain ⟨e1, e2, e3, e4⟩ := C_step_un hS hC1 hC2
  replace e2 : σ1.1 = Ia := e2
  replace e3 : σ1.2.1 = Ha := e3
  replace e4 : σ1.2.2.2.1 = Ja := e4
  subst e2 e3 e4
  refine lv_icmp_eq (tgt := 1161) hx hb dL_law_407 (by decide) (fun _ => ?_) (fun z => absurd e1 z)
  exact kk σ1 rb o w2 H2 locs2 ls _ _ ⟨hS1, hW2, hP2, hD2, hSt2, hl, by omega, by omega⟩
set_option maxHeartbeats 4000000 in
set_option maxRecDepth 100000 in
theorem lc_solve {p : Program} {l : Launch} {e : Env} {s : State} {m : MethodId} {below : List Frame} {meth : Method} {c : Code} {b L : Nat} {xs : Nat → Int32} {ad : (Nat → Nat) × (Nat → Nat)} {dC : Nat → ClassId} {dI : Nat → Nat → Nat} {cy : Nat → ClassId} {a_x a_m a_o : Nat} {Q : State → Prop} {i : Nat} {I : ZI} {H : List ZL} {d : ZC} {J : Nat → Option ZI} {qc qt qf : Nat × Nat} {ra : Int32} {o : Nat → Int64} {w : va_W} {H0 : Heap} {locs : List Loc} {ls : Array Slot} {cells slots : Nat} (C : LCtx p s m c b L xs ad dC dI cy) (hi : i + 5 ≤ L) (hL : L ≤ 2560) (V : LInv s dC dI cy b a_x a_m a_o i i (I, H, d, J, qc, qt, qf) ra o w H0 locs ls cells slots)
    (kk : ∀ (σ' : ZS) (ra' : Int32) (o' : Nat → Int64) (w' : va_W) (H' : Heap) (locs' : List Loc) (ls' : Array Slot) (cells' slots' : Nat), LInv s dC dI cy b a_x a_m a_o i (i + 5) σ' ra' o' w' H' locs' ls' cells' slots' → W p l e room_1 s m #[Value.ref b] below meth c H' locs' cells' slots' Q (F0 m 1161 ls' [])) :
    W p l e room_1 s m #[Value.ref b] below meth c H0 locs cells slots Q (F0 m 412 ls []) := by
  obtain ⟨hx, hb, hml, hown, hts, ht1, hX, hbl, hK, hE, hEx⟩ := C
  obtain ⟨hS, hW, hP, hD, hSt, hl, hc, hs⟩ := V
  have hzq := LW_q hW
  have hA : ∀ q : Nat, s.heap.size ≤ q → (fun q : Nat => s.heap.size ≤ q) q := fun _ h => h
  have hbA : ¬ (fun q : Nat => s.heap.size ≤ q) b := Nat.not_le.mpr hbl
  have hn1 : vp_in (nI i + 1) L := by rw [show (1 : Int32) = nI 1 from rfl, nI_add]; exact vp_in_nI (by omega) (by omega)
  have hn2 : vp_in (nI i + 2) L := by rw [show (2 : Int32) = nI 2 from rfl, nI_add]; exact vp_in_nI (by omega) (by omega)
  have hn3 : vp_in (nI i + 3) L := by rw [show (3 : Int32) = nI 3 from rfl, nI_add]; exact vp_in_nI (by omega) (by omega)
  have hn4 : vp_in (nI i + 4) L := by rw [show (4 : Int32) = nI 4 from rfl, nI_add]; exact vp_in_nI (by omega) (by omega)
  refine lv_aload_n hx hb dL_law_412 rfl (lv_at hl 1 rfl) ?_
  obtain ⟨rm1, mc1, ms1, f1, g1, rc1, rs1, bc1, bs1, hM1⟩ := lx_solve (l := l) (ad := ad) (dC := dC) (dI := dI) (sz := H0.size) hS hW 
  obtain ⟨fx, hx0⟩ := LW_x hW
  refine LVi (As := []) (rest := []) ⟨hx, hb, hml, hown, hts⟩ hM1 (cwV 0 hts gL_law_X6_solve rfl rc1 rs1 qlX6_solve ⟨Nat.succ_le_succ f1, Nat.le_trans (Nat.add_le_add_left g1 _) (Nat.le_of_ble_eq_true rfl)⟩) hE hK hP hD hSt hA 6 rfl rfl hx0 rfl hl.1 rfl (Nat.le_of_ble_eq_true rfl) dL_law_413 ⟨(by show cells + mc1 ≤ 601024; omega), (by show slots + ms1 ≤ 7293034; omega)⟩ (fun r1 σ1 w1 H1 locs1 hp1 hW1 hP1 hD1 hSt1 => ?_)
  obtain ⟨hC1, hS1, hq1, hq2⟩ := hp1
  have hzq1 := LW_q hW1
  refine lv_aload_n hx hb dL_law_416 rfl (lv_at hl 2 rfl) ?_
  obtain ⟨rm2, f2, g2, rc2, rs2, hM2⟩ := ly_solve (l := l) (ad := ad) (dC := dC) (dI := dI) (sz := H1.size) hS hW1 
  obtain ⟨k2, fm, hm0⟩ := LW_m hW1
  refine LVi (As := []) (rest := [.int r1]) ⟨hx, hb, hml, hown, hts⟩ hM2 (cwV 0 hts gL_law_X7_solve rfl rc2 rs2 qlX7_solve ⟨Nat.succ_le_succ f2, Nat.le_trans (Nat.add_le_add_left g2 _) (Nat.le_of_ble_eq_true rfl)⟩) hE hK hP1 hD1 hSt1 hA 7 rfl rfl hm0 rfl hl.1 rfl (Nat.le_of_ble_eq_true rfl) dL_law_417 ⟨(by show cells + mc1 + 0 ≤ 601024; omega), (by show slots + ms1 + 0 ≤ 7293034; omega)⟩ (fun r2 ζ2 w2 H2 locs2 hC2 hW2 hP2 hD2 hSt2 => ?_)
  obtain ⟨Ia, Ha, Ja, rb⟩ := ζ2
  obtain ⟨e1, e2, e3, e4⟩ := C_solve_un hS hC1 hC2
  replace e2 : σ1.1 = Ia := e2
  replace e3 : σ1.2.1 = Ha := e3
  replace e4 : σ1.2.2.2.1 = Ja := e4
  subst e2 e3 e4
  refine lv_icmp_eq (tgt := 1161) hx hb dL_law_420 (by decide) (fun _ => ?_) (fun z => absurd e1 z)
  exact kk σ1 rb o w2 H2 locs2 ls _ _ ⟨hS1, hW2, hP2, hD2, hSt2, hl, by omega, by omega⟩
set_option maxHeartbeats 4000000 in
set_option maxRecDepth 100000 in
theorem lc_undo {p : Program} {l : Launch} {e : Env} {s : State} {m : MethodId} {below : List Frame} {meth : Method} {c : Code} {b L : Nat} {xs : Nat → Int32} {ad : (Nat → Nat) × (Nat → Nat)} {dC : Nat → ClassId} {dI : Nat → Nat → Nat} {cy : Nat → ClassId} {a_x a_m a_o : Nat} {Q : State → Prop} {i : Nat} {I : ZI} {H : List ZL} {d : ZC} {J : Nat → Option ZI} {qc qt qf : Nat × Nat} {ra : Int32} {o : Nat → Int64} {w : va_W} {H0 : Heap} {locs : List Loc} {ls : Array Slot} {cells slots : Nat} (C : LCtx p s m c b L xs ad dC dI cy) (hi : i + 5 ≤ L) (hL : L ≤ 2560) (V : LInv s dC dI cy b a_x a_m a_o i i (I, H, d, J, qc, qt, qf) ra o w H0 locs ls cells slots)
    (kk : ∀ (σ' : ZS) (ra' : Int32) (o' : Nat → Int64) (w' : va_W) (H' : Heap) (locs' : List Loc) (ls' : Array Slot) (cells' slots' : Nat), LInv s dC dI cy b a_x a_m a_o i (i + 5) σ' ra' o' w' H' locs' ls' cells' slots' → W p l e room_1 s m #[Value.ref b] below meth c H' locs' cells' slots' Q (F0 m 1161 ls' [])) :
    W p l e room_1 s m #[Value.ref b] below meth c H0 locs cells slots Q (F0 m 425 ls []) := by
  obtain ⟨hx, hb, hml, hown, hts, ht1, hX, hbl, hK, hE, hEx⟩ := C
  obtain ⟨hS, hW, hP, hD, hSt, hl, hc, hs⟩ := V
  have hzq := LW_q hW
  have hA : ∀ q : Nat, s.heap.size ≤ q → (fun q : Nat => s.heap.size ≤ q) q := fun _ h => h
  have hbA : ¬ (fun q : Nat => s.heap.size ≤ q) b := Nat.not_le.mpr hbl
  have hn1 : vp_in (nI i + 1) L := by rw [show (1 : Int32) = nI 1 from rfl, nI_add]; exact vp_in_nI (by omega) (by omega)
  have hn2 : vp_in (nI i + 2) L := by rw [show (2 : Int32) = nI 2 from rfl, nI_add]; exact vp_in_nI (by omega) (by omega)
  have hn3 : vp_in (nI i + 3) L := by rw [show (3 : Int32) = nI 3 from rfl, nI_add]; exact vp_in_nI (by omega) (by omega)
  have hn4 : vp_in (nI i + 4) L := by rw [show (4 : Int32) = nI 4 from rfl, nI_add]; exact vp_in_nI (by omega) (by omega)
  refine lv_aload_n hx hb dL_law_425 rfl (lv_at hl 1 rfl) ?_
  obtain ⟨rm1, mc1, ms1, f1, g1, rc1, rs1, bc1, bs1, hM1⟩ := lx_undo (l := l) (ad := ad) (dC := dC) (dI := dI) (sz := H0.size) hS hW 
  obtain ⟨fx, hx0⟩ := LW_x hW
  refine LVi (As := []) (rest := []) ⟨hx, hb, hml, hown, hts⟩ hM1 (cwV 0 hts gL_law_X6_undo rfl rc1 rs1 qlX6_undo ⟨Nat.succ_le_succ f1, Nat.le_trans (Nat.add_le_add_left g1 _) (Nat.le_of_ble_eq_true rfl)⟩) hE hK hP hD hSt hA 6 rfl rfl hx0 rfl hl.1 rfl (Nat.le_of_ble_eq_true rfl) dL_law_426 ⟨(by show cells + mc1 ≤ 601024; omega), (by show slots + ms1 ≤ 7293034; omega)⟩ (fun r1 σ1 w1 H1 locs1 hp1 hW1 hP1 hD1 hSt1 => ?_)
  obtain ⟨hC1, hS1, hq1, hq2⟩ := hp1
  have hzq1 := LW_q hW1
  refine lv_aload_n hx hb dL_law_429 rfl (lv_at hl 2 rfl) ?_
  obtain ⟨rm2, f2, g2, rc2, rs2, hM2⟩ := ly_undo (l := l) (ad := ad) (dC := dC) (dI := dI) (sz := H1.size) hS hW1 
  obtain ⟨k2, fm, hm0⟩ := LW_m hW1
  refine LVi (As := []) (rest := [.int r1]) ⟨hx, hb, hml, hown, hts⟩ hM2 (cwV 0 hts gL_law_X7_undo rfl rc2 rs2 qlX7_undo ⟨Nat.succ_le_succ f2, Nat.le_trans (Nat.add_le_add_left g2 _) (Nat.le_of_ble_eq_true rfl)⟩) hE hK hP1 hD1 hSt1 hA 7 rfl rfl hm0 rfl hl.1 rfl (Nat.le_of_ble_eq_true rfl) dL_law_430 ⟨(by show cells + mc1 + 0 ≤ 601024; omega), (by show slots + ms1 + 0 ≤ 7293034; omega)⟩ (fun r2 ζ2 w2 H2 locs2 hC2 hW2 hP2 hD2 hSt2 => ?_)
  obtain ⟨Ia, Ha, Ja, rb⟩ := ζ2
  obtain ⟨e1, e2, e3, e4⟩ := C_undo_un hS hC1 hC2
  replace e2 : σ1.1 = Ia := e2
  replace e3 : σ1.2.1 = Ha := e3
  replace e4 : σ1.2.2.2.1 = Ja := e4
  subst e2 e3 e4
  refine lv_icmp_eq (tgt := 1161) hx hb dL_law_433 (by decide) (fun _ => ?_) (fun z => absurd e1 z)
  exact kk σ1 rb o w2 H2 locs2 ls _ _ ⟨hS1, hW2, hP2, hD2, hSt2, hl, by omega, by omega⟩
