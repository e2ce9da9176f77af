set_option maxHeartbeats 4000000 in
set_option maxRecDepth 100000 in
theorem lc_linear {p : Program} {l : Launch} {e : Env} {s : State} {m : MethodId} {below : List Frame} {meth : Method} {c : Code} {b L : Nat} {xs : Nat → Int32} {ad : (Nat → Nat) × (Nat → Nat)} {dC : Nat → ClassId} {dI : Nat → Nat → Nat} {cy : Nat → ClassId} {a_x a_m a_o : Nat} {Q : State → Prop} {i : Nat} {I : ZI} {H : List ZL} {d : ZC} {J : Nat → Option ZI} {qc qt qf : Nat × Nat} {ra : Int32} {o : Nat → Int64} {w : va_W} {H0 : Heap} {locs : List Loc} {ls : Array Slot} {cells slots : Nat} (C : LCtx p s m c b L xs ad dC dI cy) (hi : i + 5 ≤ L) (hL : L ≤ 2560) (V : LInv s dC dI cy b a_x a_m a_o i i (I, H, d, J, qc, qt, qf) ra o w H0 locs ls cells slots)
    (kk : ∀ (σ' : ZS) (ra' : Int32) (o' : Nat → Int64) (w' : va_W) (H' : Heap) (locs' : List Loc) (ls' : Array Slot) (cells' slots' : Nat), LInv s dC dI cy b a_x a_m a_o i (i + 5) σ' ra' o' w' H' locs' ls' cells' slots' → W p l e room_1 s m #[Value.ref b] below meth c H' locs' cells' slots' Q (F0 m 1161 ls' [])) :
    W p l e room_1 s m #[Value.ref b] below meth c H0 locs cells slots Q (F0 m 688 ls []) := by
  obtain ⟨hx, hb, hml, hown, hts, ht1, hX, hbl, hK, hE, hEx⟩ := C
  obtain ⟨hS, hW, hP, hD, hSt, hl, hc, hs⟩ := V
  have hzq := LW_q hW
  have hA : ∀ q : Nat, s.heap.size ≤ q → (fun q : Nat => s.heap.size ≤ q) q := fun _ h => h
  have hbA : ¬ (fun q : Nat => s.heap.size ≤ q) b := Nat.not_le.mpr hbl
  have hn1 : vp_in (nI i + 1) L := by rw [show (1 : Int32) = nI 1 from rfl, nI_add]; exact vp_in_nI (by omega) (by omega)
  have hn2 : vp_in (nI i + 2) L := by rw [show (2 : Int32) = nI 2 from rfl, nI_add]; exact vp_in_nI (by omega) (by omega)
  have hn3 : vp_in (nI i + 3) L := by rw [show (3 : Int32) = nI 3 from rfl, nI_add]; exact vp_in_nI (by omega) (by omega)
  have hn4 : vp_in (nI i + 4) L := by rw [show (4 : Int32) = nI 4 from rfl, nI_add]; exact vp_in_nI (by omega) (by omega)
  refine lv_aload_n hx hb dL_law_688 rfl (lv_at hl 1 rfl) ?_
  obtain ⟨rm1, mc1, ms1, f1, g1, rc1, rs1, bc1, bs1, hM1⟩ := lx_linear (l := l) (ad := ad) (dC := dC) (dI := dI) (sz := H0.size) hS hW 
  obtain ⟨fx, hx0⟩ := LW_x hW
  refine LVl (As := []) (rest := []) ⟨hx, hb, hml, hown, hts⟩ hM1 (cwV 0 hts gL_law_X6_linear rfl rc1 rs1 qlX6_linear ⟨Nat.succ_le_succ f1, Nat.le_trans (Nat.add_le_add_left g1 _) (Nat.le_of_ble_eq_true rfl)⟩) hE hK hP hD hSt hA 6 rfl rfl hx0 rfl hl.1 rfl (Nat.le_of_ble_eq_true rfl) dL_law_689 ⟨(by show cells + mc1 ≤ 601024; omega), (by show slots + ms1 ≤ 7293034; omega)⟩ (fun r1 σ1 w1 H1 locs1 hp1 hW1 hP1 hD1 hSt1 => ?_)
  obtain ⟨hC1, hS1, hq1, hq2⟩ := hp1
  have hzq1 := LW_q hW1
  refine lv_aload_n hx hb dL_law_692 rfl (lv_at hl 2 rfl) ?_
  obtain ⟨rm2, f2, g2, rc2, rs2, hM2⟩ := ly_linear (l := l) (ad := ad) (dC := dC) (dI := dI) (sz := H1.size) hS hW1 
  obtain ⟨k2, fm, hm0⟩ := LW_m hW1
  refine LVl (As := []) (rest := [.long r1]) ⟨hx, hb, hml, hown, hts⟩ hM2 (cwV 0 hts gL_law_X7_linear rfl rc2 rs2 qlX7_linear ⟨Nat.succ_le_succ f2, Nat.le_trans (Nat.add_le_add_left g2 _) (Nat.le_of_ble_eq_true rfl)⟩) hE hK hP1 hD1 hSt1 hA 7 rfl rfl hm0 rfl hl.1 rfl (Nat.le_of_ble_eq_true rfl) dL_law_693 ⟨(by show cells + mc1 + 0 ≤ 601024; omega), (by show slots + ms1 + 0 ≤ 7293034; omega)⟩ (fun r2 ζ2 w2 H2 locs2 hC2 hW2 hP2 hD2 hSt2 => ?_)
  obtain ⟨Ia, Ha, Ja, rb⟩ := ζ2
  obtain ⟨e1, e2, e3, e4⟩ := C_linear_un hS hC1 hC2
  replace e2 : σ1.1 = Ia := e2
  replace e3 : σ1.2.1 = Ha := e3
  replace e4 : σ1.2.2.2.1 = Ja := e4
  subst e2 e3 e4
  refine W.lcmp hx hb dL_law_696 ?_
  refine lv_if_eq (tgt := 1161) hx hb dL_law_697 (by decide) (fun _ => ?_) (fun z => absurd ((lg_cmp_eq _ _).mpr e1) z)
  exact kk σ1 rb o w2 H2 locs2 ls _ _ ⟨hS1, hW2, hP2, hD2, hSt2, hl, by omega, by omega⟩
set_option maxHeartbeats 4000000 in
set_option maxRecDepth 100000 in
theorem lc_part {p : Program} {l : Launch} {e : Env} {s : State} {m : MethodId} {below : List Frame} {meth : Method} {c : Code} {b L : Nat} {xs : Nat → Int32} {ad : (Nat → Nat) × (Nat → Nat)} {dC : Nat → ClassId} {dI : Nat → Nat → Nat} {cy : Nat → ClassId} {a_x a_m a_o : Nat} {Q : State → Prop} {i : Nat} {I : ZI} {H : List ZL} {d : ZC} {J : Nat → Option ZI} {qc qt qf : Nat × Nat} {ra : Int32} {o : Nat → Int64} {w : va_W} {H0 : Heap} {locs : List Loc} {ls : Array Slot} {cells slots : Nat} (C : LCtx p s m c b L xs ad dC dI cy) (hi : i + 5 ≤ L) (hL : L ≤ 2560) (V : LInv s dC dI cy b a_x a_m a_o i i (I, H, d, J, qc, qt, qf) ra o w H0 locs ls cells slots)
    (kk : ∀ (σ' : ZS) (ra' : Int32) (o' : Nat → Int64) (w' : va_W) (H' : Heap) (locs' : List Loc) (ls' : Array Slot) (cells' slots' : Nat), LInv s dC dI cy b a_x a_m a_o i (i + 5) σ' ra' o' w' H' locs' ls' cells' slots' → W p l e room_1 s m #[Value.ref b] below meth c H' locs' cells' slots' Q (F0 m 1161 ls' [])) :
    W p l e room_1 s m #[Value.ref b] below meth c H0 locs cells slots Q (F0 m 702 ls []) := by
  obtain ⟨hx, hb, hml, hown, hts, ht1, hX, hbl, hK, hE, hEx⟩ := C
  obtain ⟨hS, hW, hP, hD, hSt, hl, hc, hs⟩ := V
  have hzq := LW_q hW
  have hA : ∀ q : Nat, s.heap.size ≤ q → (fun q : Nat => s.heap.size ≤ q) q := fun _ h => h
  have hbA : ¬ (fun q : Nat => s.heap.size ≤ q) b := Nat.not_le.mpr hbl
  have hn1 : vp_in (nI i + 1) L := by rw [show (1 : Int32) = nI 1 from rfl, nI_add]; exact vp_in_nI (by omega) (by omega)
  have hn2 : vp_in (nI i + 2) L := by rw [show (2 : Int32) = nI 2 from rfl, nI_add]; exact vp_in_nI (by omega) (by omega)
  have hn3 : vp_in (nI i + 3) L := by rw [show (3 : Int32) = nI 3 from rfl, nI_add]; exact vp_in_nI (by omega) (by omega)
  have hn4 : vp_in (nI i + 4) L := by rw [show (4 : Int32) = nI 4 from rfl, nI_add]; exact vp_in_nI (by omega) (by omega)
  refine lv_aload_n hx hb dL_law_702 rfl (lv_at hl 1 rfl) ?_
  refine lv_aload_n hx hb dL_law_703 rfl (lv_at hl 0 rfl) ?_
  refine lv_iload hx hb dL_law_704 (lv_at hl 4 rfl) ?_
  refine lv_iconst (v := 1) hx hb dL_law_706 (by decide) ?_
  refine lv_iadd hx hb dL_law_707 ?_
  refine va_sld hx hb hX hbl hbA hSt hn1 dL_law_708 ?_
  refine lv_aload_n hx hb dL_law_709 rfl (lv_at hl 0 rfl) ?_
  refine lv_iload hx hb dL_law_710 (lv_at hl 4 rfl) ?_
  refine lv_iconst (v := 2) hx hb dL_law_712 (by decide) ?_
  refine lv_iadd hx hb dL_law_713 ?_
  refine va_sld hx hb hX hbl hbA hSt hn2 dL_law_714 ?_
  obtain ⟨rm1, mc1, ms1, f1, g1, rc1, rs1, bc1, bs1, hM1⟩ := lx_part (l := l) (ad := ad) (dC := dC) (dI := dI) (sz := H0.size) hS hW ((xs (nI i + 1).toNatClampNeg)) ((xs (nI i + 2).toNatClampNeg))
  obtain ⟨fx, hx0⟩ := LW_x hW
  refine LVi (As := [.int (xs (nI i + 1).toNatClampNeg), .int (xs (nI i + 2).toNatClampNeg)]) (rest := []) ⟨hx, hb, hml, hown, hts⟩ hM1 (cwV 2 hts gL_law_X6_part rfl rc1 rs1 qlX6_part ⟨Nat.succ_le_succ f1, Nat.le_trans (Nat.add_le_add_left g1 _) (Nat.le_of_ble_eq_true rfl)⟩) hE hK hP hD hSt hA 6 rfl rfl hx0 rfl hl.1 rfl (Nat.le_of_ble_eq_true rfl) dL_law_715 ⟨(by show cells + mc1 ≤ 601024; omega), (by show slots + ms1 ≤ 7293034; omega)⟩ (fun r1 σ1 w1 H1 locs1 hp1 hW1 hP1 hD1 hSt1 => ?_)
  obtain ⟨hC1, hS1, hq1, hq2⟩ := hp1
  have hzq1 := LW_q hW1
  refine lv_aload_n hx hb dL_law_718 rfl (lv_at hl 2 rfl) ?_
  refine lv_aload_n hx hb dL_law_719 rfl (lv_at hl 0 rfl) ?_
  refine lv_iload hx hb dL_law_720 (lv_at hl 4 rfl) ?_
  refine lv_iconst (v := 1) hx hb dL_law_722 (by decide) ?_
  refine lv_iadd hx hb dL_law_723 ?_
  refine va_sld hx hb hX hbl hbA hSt1 hn1 dL_law_724 ?_
  refine lv_aload_n hx hb dL_law_725 rfl (lv_at hl 0 rfl) ?_
  refine lv_iload hx hb dL_law_726 (lv_at hl 4 rfl) ?_
  refine lv_iconst (v := 2) hx hb dL_law_728 (by decide) ?_
  refine lv_iadd hx hb dL_law_729 ?_
  refine va_sld hx hb hX hbl hbA hSt1 hn2 dL_law_730 ?_
  obtain ⟨rm2, f2, g2, rc2, rs2, hM2⟩ := ly_part (l := l) (ad := ad) (dC := dC) (dI := dI) (sz := H1.size) hS hW1 ((xs (nI i + 1).toNatClampNeg)) ((xs (nI i + 2).toNatClampNeg))
  obtain ⟨k2, fm, hm0⟩ := LW_m hW1
  refine LVi (As := [.int (xs (nI i + 1).toNatClampNeg), .int (xs (nI i + 2).toNatClampNeg)]) (rest := [.int r1]) ⟨hx, hb, hml, hown, hts⟩ hM2 (cwV 2 hts gL_law_X7_part rfl rc2 rs2 qlX7_part ⟨Nat.succ_le_succ f2, Nat.le_trans (Nat.add_le_add_left g2 _) (Nat.le_of_ble_eq_true rfl)⟩) hE hK hP1 hD1 hSt1 hA 7 rfl rfl hm0 rfl hl.1 rfl (Nat.le_of_ble_eq_true rfl) dL_law_731 ⟨(by show cells + mc1 + 0 ≤ 601024; omega), (by show slots + ms1 + 0 ≤ 7293034; omega)⟩ (fun r2 ζ2 w2 H2 locs2 hC2 hW2 hP2 hD2 hSt2 => ?_)
  obtain ⟨Ia, Ha, Ja, rb⟩ := ζ2
  obtain ⟨e1, e2, e3, e4⟩ := C_part_un hS hC1 hC2
  replace e2 : σ1.1 = Ia := e2
  replace e3 : σ1.2.1 = Ha := e3
  replace e4 : σ1.2.2.2.1 = Ja := e4
  subst e2 e3 e4
  refine lv_icmp_eq (tgt := 1161) hx hb dL_law_734 (by decide) (fun _ => ?_) (fun z => absurd e1 z)
  exact kk σ1 rb o w2 H2 locs2 ls _ _ ⟨hS1, hW2, hP2, hD2, hSt2, hl, by omega, by omega⟩
set_option maxHeartbeats 4000000 in
set_option maxRecDepth 100000 in
theorem lc_greedy {p : Program} {l : Launch} {e : Env} {s : State} {m : MethodId} {below : List Frame} {meth : Method} {c : Code} {b L : Nat} {xs : Nat → Int32} {ad : (Nat → Nat) × (Nat → Nat)} {dC : Nat → ClassId} {dI : Nat → Nat → Nat} {cy : Nat → ClassId} {a_x a_m a_o : Nat} {Q : State → Prop} {i : Nat} {I : ZI} {H : List ZL} {d : ZC} {J : Nat → Option ZI} {qc qt qf : Nat × Nat} {ra : Int32} {o : Nat → Int64} {w : va_W} {H0 : Heap} {locs : List Loc} {ls : Array Slot} {cells slots : Nat} (C : LCtx p s m c b L xs ad dC dI cy) (hi : i + 5 ≤ L) (hL : L ≤ 2560) (V : LInv s dC dI cy b a_x a_m a_o i i (I, H, d, J, qc, qt, qf) ra o w H0 locs ls cells slots)
    (kk : ∀ (σ' : ZS) (ra' : Int32) (o' : Nat → Int64) (w' : va_W) (H' : Heap) (locs' : List Loc) (ls' : Array Slot) (cells' slots' : Nat), LInv s dC dI cy b a_x a_m a_o i (i + 5) σ' ra' o' w' H' locs' ls' cells' slots' → W p l e room_1 s m #[Value.ref b] below meth c H' locs' cells' slots' Q (F0 m 1161 ls' [])) :
    W p l e room_1 s m #[Value.ref b] below meth c H0 locs cells slots Q (F0 m 739 ls []) := by
  obtain ⟨hx, hb, hml, hown, hts, ht1, hX, hbl, hK, hE, hEx⟩ := C
  obtain ⟨hS, hW, hP, hD, hSt, hl, hc, hs⟩ := V
  have hzq := LW_q hW
  have hA : ∀ q : Nat, s.heap.size ≤ q → (fun q : Nat => s.heap.size ≤ q) q := fun _ h => h
  have hbA : ¬ (fun q : Nat => s.heap.size ≤ q) b := Nat.not_le.mpr hbl
  have hn1 : vp_in (nI i + 1) L := by rw [show (1 : Int32) = nI 1 from rfl, nI_add]; exact vp_in_nI (by omega) (by omega)
  have hn2 : vp_in (nI i + 2) L := by rw [show (2 : Int32) = nI 2 from rfl, nI_add]; exact vp_in_nI (by omega) (by omega)
  have hn3 : vp_in (nI i + 3) L := by rw [show (3 : Int32) = nI 3 from rfl, nI_add]; exact vp_in_nI (by omega) (by omega)
  have hn4 : vp_in (nI i + 4) L := by rw [show (4 : Int32) = nI 4 from rfl, nI_add]; exact vp_in_nI (by omega) (by omega)
  refine lv_aload_n hx hb dL_law_739 rfl (lv_at hl 1 rfl) ?_
  refine lv_aload_n hx hb dL_law_740 rfl (lv_at hl 0 rfl) ?_
  refine lv_iload hx hb dL_law_741 (lv_at hl 4 rfl) ?_
  refine lv_iconst (v := 1) hx hb dL_law_743 (by decide) ?_
  refine lv_iadd hx hb dL_law_744 ?_
  refine va_sld hx hb hX hbl hbA hSt hn1 dL_law_745 ?_
  obtain ⟨rm1, mc1, ms1, f1, g1, rc1, rs1, bc1, bs1, hM1⟩ := lx_greedy (l := l) (ad := ad) (dC := dC) (dI := dI) (sz := H0.size) hS hW ((xs (nI i + 1).toNatClampNeg))
  obtain ⟨fx, hx0⟩ := LW_x hW
  refine LVl (As := [.int (xs (nI i + 1).toNatClampNeg)]) (rest := []) ⟨hx, hb, hml, hown, hts⟩ hM1 (cwV 1 hts gL_law_X6_greedy rfl rc1 rs1 qlX6_greedy ⟨Nat.succ_le_succ f1, Nat.le_trans (Nat.add_le_add_left g1 _) (Nat.le_of_ble_eq_true rfl)⟩) hE hK hP hD hSt hA 6 rfl rfl hx0 rfl hl.1 rfl (Nat.le_of_ble_eq_true rfl) dL_law_746 ⟨(by show cells + mc1 ≤ 601024; omega), (by show slots + ms1 ≤ 7293034; omega)⟩ (fun r1 σ1 w1 H1 locs1 hp1 hW1 hP1 hD1 hSt1 => ?_)
  obtain ⟨hC1, hS1, hq1, hq2⟩ := hp1
  have hzq1 := LW_q hW1
  refine lv_aload_n hx hb dL_law_749 rfl (lv_at hl 2 rfl) ?_
  refine lv_aload_n hx hb dL_law_750 rfl (lv_at hl 0 rfl) ?_
  refine lv_iload hx hb dL_law_751 (lv_at hl 4 rfl) ?_
  refine lv_iconst (v := 1) hx hb dL_law_753 (by decide) ?_
  refine lv_iadd hx hb dL_law_754 ?_
  refine va_sld hx hb hX hbl hbA hSt1 hn1 dL_law_755 ?_
  obtain ⟨rm2, f2, g2, rc2, rs2, hM2⟩ := ly_greedy (l := l) (ad := ad) (dC := dC) (dI := dI) (sz := H1.size) hS hW1 ((xs (nI i + 1).toNatClampNeg))
  obtain ⟨k2, fm, hm0⟩ := LW_m hW1
  refine LVl (As := [.int (xs (nI i + 1).toNatClampNeg)]) (rest := [.long r1]) ⟨hx, hb, hml, hown, hts⟩ hM2 (cwV 1 hts gL_law_X7_greedy rfl rc2 rs2 qlX7_greedy ⟨Nat.succ_le_succ f2, Nat.le_trans (Nat.add_le_add_left g2 _) (Nat.le_of_ble_eq_true rfl)⟩) hE hK hP1 hD1 hSt1 hA 7 rfl rfl hm0 rfl hl.1 rfl (Nat.le_of_ble_eq_true rfl) dL_law_756 ⟨(by show cells + mc1 + 0 ≤ 601024; omega), (by show slots + ms1 + 0 ≤ 7293034; omega)⟩ (fun r2 ζ2 w2 H2 locs2 hC2 hW2 hP2 hD2 hSt2 => ?_)
  obtain ⟨Ia, Ha, Ja, rb⟩ := ζ2
  obtain ⟨e1, e2, e3, e4⟩ := C_greedy_un hS hC1 hC2
  replace e2 : σ1.1 = Ia := e2
  replace e3 : σ1.2.1 = Ha := e3
  replace e4 : σ1.2.2.2.1 = Ja := e4
  subst e2 e3 e4
  refine W.lcmp hx hb dL_law_759 ?_
  refine lv_if_eq (tgt := 1161) hx hb dL_law_760 (by decide) (fun _ => ?_) (fun z => absurd ((lg_cmp_eq _ _).mpr e1) z)
  exact kk σ1 rb o w2 H2 locs2 ls _ _ ⟨hS1, hW2, hP2, hD2, hSt2, hl, by omega, by omega⟩
set_option maxHeartbeats 4000000 in
set_option maxRecDepth 100000 in
theorem lc_swap {p : Program} {l : Launch} {e : Env} {s : State} {m : MethodId} {below : List Frame} {meth : Method} {c : Code} {b L : Nat} {xs : Nat → Int32} {ad : (Nat → Nat) × (Nat → Nat)} {dC : Nat → ClassId} {dI : Nat → Nat → Nat} {cy : Nat → ClassId} {a_x a_m a_o : Nat} {Q : State → Prop} {i : Nat} {I : ZI} {H : List ZL} {d : ZC} {J : Nat → Option ZI} {qc qt qf : Nat × Nat} {ra : Int32} {o : Nat → Int64} {w : va_W} {H0 : Heap} {locs : List Loc} {ls : Array Slot} {cells slots : Nat} (C : LCtx p s m c b L xs ad dC dI cy) (hi : i + 5 ≤ L) (hL : L ≤ 2560) (V : LInv s dC dI cy b a_x a_m a_o i i (I, H, d, J, qc, qt, qf) ra o w H0 locs ls cells slots)
    (kk : ∀ (σ' : ZS) (ra' : Int32) (o' : Nat → Int64) (w' : va_W) (H' : Heap) (locs' : List Loc) (ls' : Array Slot) (cells' slots' : Nat), LInv s dC dI cy b a_x a_m a_o i (i + 5) σ' ra' o' w' H' locs' ls' cells' slots' → W p l e room_1 s m #[Value.ref b] below meth c H' locs' cells' slots' Q (F0 m 1161 ls' [])) :
    W p l e room_1 s m #[Value.ref b] below meth c H0 locs cells slots Q (F0 m 765 ls []) := by
  obtain ⟨hx, hb, hml, hown, hts, ht1, hX, hbl, hK, hE, hEx⟩ := C
  obtain ⟨hS, hW, hP, hD, hSt, hl, hc, hs⟩ := V
  have hzq := LW_q hW
  have hA : ∀ q : Nat, s.heap.size ≤ q → (fun q : Nat => s.heap.size ≤ q) q := fun _ h => h
  have hbA : ¬ (fun q : Nat => s.heap.size ≤ q) b := Nat.not_le.mpr hbl
  have hn1 : vp_in (nI i + 1) L := by rw [show (1 : Int32) = nI 1 from rfl, nI_add]; exact vp_in_nI (by omega) (by omega)
  have hn2 : vp_in (nI i + 2) L := by rw [show (2 : Int32) = nI 2 from rfl, nI_add]; exact vp_in_nI (by omega) (by omega)
  have hn3 : vp_in (nI i + 3) L := by rw [show (3 : Int32) = nI 3 from rfl, nI_add]; exact vp_in_nI (by omega) (by omega)
  have hn4 : vp_in (nI i + 4) L := by rw [show (4 : Int32) = nI 4 from rfl, nI_add]; exact vp_in_nI (by omega) (by omega)
  refine lv_aload_n hx hb dL_law_765 rfl (lv_at hl 1 rfl) ?_
  refine lv_aload_n hx hb dL_law_766 rfl (lv_at hl 0 rfl) ?_
  refine lv_iload hx hb dL_law_767 (lv_at hl 4 rfl) ?_
  refine lv_iconst (v := 1) hx hb dL_law_769 (by decide) ?_
  refine lv_iadd hx hb dL_law_770 ?_
  refine va_sld hx hb hX hbl hbA hSt hn1 dL_law_771 ?_
  obtain ⟨rm1, mc1, ms1, f1, g1, rc1, rs1, bc1, bs1, hM1⟩ := lx_swap (l := l) (ad := ad) (dC := dC) (dI := dI) (sz := H0.size) hS hW ((xs (nI i + 1).toNatClampNeg))
  obtain ⟨fx, hx0⟩ := LW_x hW
  refine LVi (As := [.int (xs (nI i + 1).toNatClampNeg)]) (rest := []) ⟨hx, hb, hml, hown, hts⟩ hM1 (cwV 1 hts gL_law_X6_swap rfl rc1 rs1 qlX6_swap ⟨Nat.succ_le_succ f1, Nat.le_trans (Nat.add_le_add_left g1 _) (Nat.le_of_ble_eq_true rfl)⟩) hE hK hP hD hSt hA 6 rfl rfl hx0 rfl hl.1 rfl (Nat.le_of_ble_eq_true rfl) dL_law_772 ⟨(by show cells + mc1 ≤ 601024; omega), (by show slots + ms1 ≤ 7293034; omega)⟩ (fun r1 σ1 w1 H1 locs1 hp1 hW1 hP1 hD1 hSt1 => ?_)
  obtain ⟨hC1, hS1, hq1, hq2⟩ := hp1
  have hzq1 := LW_q hW1
  refine lv_aload_n hx hb dL_law_775 rfl (lv_at hl 2 rfl) ?_
  refine lv_aload_n hx hb dL_law_776 rfl (lv_at hl 0 rfl) ?_
  refine lv_iload hx hb dL_law_777 (lv_at hl 4 rfl) ?_
  refine lv_iconst (v := 1) hx hb dL_law_779 (by decide) ?_
  refine lv_iadd hx hb dL_law_780 ?_
  refine va_sld hx hb hX hbl hbA hSt1 hn1 dL_law_781 ?_
  obtain ⟨rm2, f2, g2, rc2, rs2, hM2⟩ := ly_swap (l := l) (ad := ad) (dC := dC) (dI := dI) (sz := H1.size) hS hW1 ((xs (nI i + 1).toNatClampNeg))
  obtain ⟨k2, fm, hm0⟩ := LW_m hW1
  refine LVi (As := [.int (xs (nI i + 1).toNatClampNeg)]) (rest := [.int r1]) ⟨hx, hb, hml, hown, hts⟩ hM2 (cwV 1 hts gL_law_X7_swap rfl rc2 rs2 qlX7_swap ⟨Nat.succ_le_succ f2, Nat.le_trans (Nat.add_le_add_left g2 _) (Nat.le_of_ble_eq_true rfl)⟩) hE hK hP1 hD1 hSt1 hA 7 rfl rfl hm0 rfl hl.1 rfl (Nat.le_of_ble_eq_true rfl) dL_law_782 ⟨(by show cells + mc1 + 0 ≤ 601024; omega), (by show slots + ms1 + 0 ≤ 7293034; omega)⟩ (fun r2 ζ2 w2 H2 locs2 hC2 hW2 hP2 hD2 hSt2 => ?_)
  obtain ⟨Ia, Ha, Ja, rb⟩ := ζ2
  obtain ⟨e1, e2, e3, e4⟩ := C_swap_un hS hC1 hC2
  replace e2 : σ1.1 = Ia := e2
  replace e3 : σ1.2.1 = Ha := e3
  replace e4 : σ1.2.2.2.1 = Ja := e4
  subst e2 e3 e4
  refine lv_icmp_eq (tgt := 1161) hx hb dL_law_785 (by decide) (fun _ => ?_) (fun z => absurd e1 z)
  exact kk σ1 rb o w2 H2 locs2 ls _ _ ⟨hS1, hW2, hP2, hD2, hSt2, hl, by omega, by omega⟩
set_option maxHeartbeats 4000000 in
set_option maxRecDepth 100000 in
theorem lc_front {p : Program} {l : Launch} {e : Env} {s : State} {m : MethodId} {below : List Frame} {meth : Method} {c : Code} {b L : Nat} {xs : Nat → Int32} {ad : (Nat → Nat) × (Nat → Nat)} {dC : Nat → ClassId} {dI : Nat → Nat → Nat} {cy : Nat → ClassId} {a_x a_m a_o : Nat} {Q : State → Prop} {i : Nat} {I : ZI} {H : List ZL} {d : ZC} {J : Nat → Option ZI} {qc qt qf : Nat × Nat} {ra : Int32} {o : Nat → Int64} {w : va_W} {H0 : Heap} {locs : List Loc} {ls : Array Slot} {cells slots : Nat} (C : LCtx p s m c b L xs ad dC dI cy) (hi : i + 5 ≤ L) (hL : L ≤ 2560) (V : LInv s dC dI cy b a_x a_m a_o i i (I, H, d, J, qc, qt, qf) ra o w H0 locs ls cells slots)
    (kk : ∀ (σ' : ZS) (ra' : Int32) (o' : Nat → Int64) (w' : va_W) (H' : Heap) (locs' : List Loc) (ls' : Array Slot) (cells' slots' : Nat), LInv s dC dI cy b a_x a_m a_o i (i + 5) σ' ra' o' w' H' locs' ls' cells' slots' → W p l e room_1 s m #[Value.ref b] below meth c H' locs' cells' slots' Q (F0 m 1161 ls' [])) :
    W p l e room_1 s m #[Value.ref b] below meth c H0 locs cells slots Q (F0 m 790 ls []) := by
  obtain ⟨hx, hb, hml, hown, hts, ht1, hX, hbl, hK, hE, hEx⟩ := C
  obtain ⟨hS, hW, hP, hD, hSt, hl, hc, hs⟩ := V
  have hzq := LW_q hW
  have hA : ∀ q : Nat, s.heap.size ≤ q → (fun q : Nat => s.heap.size ≤ q) q := fun _ h => h
  have hbA : ¬ (fun q : Nat => s.heap.size ≤ q) b := Nat.not_le.mpr hbl
  have hn1 : vp_in (nI i + 1) L := by rw [show (1 : Int32) = nI 1 from rfl, nI_add]; exact vp_in_nI (by omega) (by omega)
  have hn2 : vp_in (nI i + 2) L := by rw [show (2 : Int32) = nI 2 from rfl, nI_add]; exact vp_in_nI (by omega) (by omega)
  have hn3 : vp_in (nI i + 3) L := by rw [show (3 : Int32) = nI 3 from rfl, nI_add]; exact vp_in_nI (by omega) (by omega)
  have hn4 : vp_in (nI i + 4) L := by rw [show (4 : Int32) = nI 4 from rfl, nI_add]; exact vp_in_nI (by omega) (by omega)
  refine lv_aload_n hx hb dL_law_790 rfl (lv_at hl 1 rfl) ?_
  refine lv_aload_n hx hb dL_law_791 rfl (lv_at hl 0 rfl) ?_
  refine lv_iload hx hb dL_law_792 (lv_at hl 4 rfl) ?_
  refine lv_iconst (v := 1) hx hb dL_law_794 (by decide) ?_
  refine lv_iadd hx hb dL_law_795 ?_
  refine va_sld hx hb hX hbl hbA hSt hn1 dL_law_796 ?_
  refine lv_aload_n hx hb dL_law_797 rfl (lv_at hl 0 rfl) ?_
  refine lv_iload hx hb dL_law_798 (lv_at hl 4 rfl) ?_
  refine lv_iconst (v := 2) hx hb dL_law_800 (by decide) ?_
  refine lv_iadd hx hb dL_law_801 ?_
  refine va_sld hx hb hX hbl hbA hSt hn2 dL_law_802 ?_
  obtain ⟨rm1, mc1, ms1, f1, g1, rc1, rs1, bc1, bs1, hM1⟩ := lx_front (l := l) (ad := ad) (dC := dC) (dI := dI) (sz := H0.size) hS hW ((xs (nI i + 1).toNatClampNeg)) ((xs (nI i + 2).toNatClampNeg))
  obtain ⟨fx, hx0⟩ := LW_x hW
  refine LVl (As := [.int (xs (nI i + 1).toNatClampNeg), .int (xs (nI i + 2).toNatClampNeg)]) (rest := []) ⟨hx, hb, hml, hown, hts⟩ hM1 (cwV 2 hts gL_law_X6_front rfl rc1 rs1 qlX6_front ⟨Nat.succ_le_succ f1, Nat.le_trans (Nat.add_le_add_left g1 _) (Nat.le_of_ble_eq_true rfl)⟩) hE hK hP hD hSt hA 6 rfl rfl hx0 rfl hl.1 rfl (Nat.le_of_ble_eq_true rfl) dL_law_803 ⟨(by show cells + mc1 ≤ 601024; omega), (by show slots + ms1 ≤ 7293034; omega)⟩ (fun r1 σ1 w1 H1 locs1 hp1 hW1 hP1 hD1 hSt1 => ?_)
  obtain ⟨hC1, hS1, hq1, hq2⟩ := hp1
  have hzq1 := LW_q hW1
  refine lv_aload_n hx hb dL_law_806 rfl (lv_at hl 2 rfl) ?_
  refine lv_aload_n hx hb dL_law_807 rfl (lv_at hl 0 rfl) ?_
  refine lv_iload hx hb dL_law_808 (lv_at hl 4 rfl) ?_
  refine lv_iconst (v := 1) hx hb dL_law_810 (by decide) ?_
  refine lv_iadd hx hb dL_law_811 ?_
  refine va_sld hx hb hX hbl hbA hSt1 hn1 dL_law_812 ?_
  refine lv_aload_n hx hb dL_law_813 rfl (lv_at hl 0 rfl) ?_
  refine lv_iload hx hb dL_law_814 (lv_at hl 4 rfl) ?_
  refine lv_iconst (v := 2) hx hb dL_law_816 (by decide) ?_
  refine lv_iadd hx hb dL_law_817 ?_
  refine va_sld hx hb hX hbl hbA hSt1 hn2 dL_law_818 ?_
  obtain ⟨rm2, f2, g2, rc2, rs2, hM2⟩ := ly_front (l := l) (ad := ad) (dC := dC) (dI := dI) (sz := H1.size) hS hW1 ((xs (nI i + 1).toNatClampNeg)) ((xs (nI i + 2).toNatClampNeg))
  obtain ⟨k2, fm, hm0⟩ := LW_m hW1
  refine LVl (As := [.int (xs (nI i + 1).toNatClampNeg), .int (xs (nI i + 2).toNatClampNeg)]) (rest := [.long r1]) ⟨hx, hb, hml, hown, hts⟩ hM2 (cwV 2 hts gL_law_X7_front rfl rc2 rs2 qlX7_front ⟨Nat.succ_le_succ f2, Nat.le_trans (Nat.add_le_add_left g2 _) (Nat.le_of_ble_eq_true rfl)⟩) hE hK hP1 hD1 hSt1 hA 7 rfl rfl hm0 rfl hl.1 rfl (Nat.le_of_ble_eq_true rfl) dL_law_819 ⟨(by show cells + mc1 + 0 ≤ 601024; omega), (by show slots + ms1 + 0 ≤ 7293034; omega)⟩ (fun r2 ζ2 w2 H2 locs2 hC2 hW2 hP2 hD2 hSt2 => ?_)
  obtain ⟨Ia, Ha, Ja, rb⟩ := ζ2
  obtain ⟨e1, e2, e3, e4⟩ := C_front_un hS hC1 hC2
  replace e2 : σ1.1 = Ia := e2
  replace e3 : σ1.2.1 = Ha := e3
  replace e4 : σ1.2.2.2.1 = Ja := e4
  subst e2 e3 e4
  refine W.lcmp hx hb dL_law_822 ?_
  refine lv_if_eq (tgt := 1161) hx hb dL_law_823 (by decide) (fun _ => ?_) (fun z => absurd ((lg_cmp_eq _ _).mpr e1) z)
  exact kk σ1 rb o w2 H2 locs2 ls _ _ ⟨hS1, hW2, hP2, hD2, hSt2, hl, by omega, by omega⟩
