set_option maxHeartbeats 4000000 in
set_option maxRecDepth 100000 in
theorem lc_other {p : Program} {l : Launch} {e : Env} {s : State} {m : MethodId} {below : List Frame} {meth : Method} {c : Code} {b L : Nat} {xs : Nat → Int32} {ad : (Nat → Nat) × (Nat → Nat)} {dC : Nat → ClassId} {dI : Nat → Nat → Nat} {cy : Nat → ClassId} {a_x a_m a_o : Nat} {Q : State → Prop} {i : Nat} {I : ZI} {H : List ZL} {d : ZC} {J : Nat → Option ZI} {qc qt qf : Nat × Nat} {ra : Int32} {o : Nat → Int64} {w : va_W} {H0 : Heap} {locs : List Loc} {ls : Array Slot} {cells slots : Nat} (C : LCtx p s m c b L xs ad dC dI cy) (hi : i + 5 ≤ L) (hL : L ≤ 2560) (V : LInv s dC dI cy b a_x a_m a_o i i (I, H, d, J, qc, qt, qf) ra o w H0 locs ls cells slots)
    (kk : ∀ (σ' : ZS) (ra' : Int32) (o' : Nat → Int64) (w' : va_W) (H' : Heap) (locs' : List Loc) (ls' : Array Slot) (cells' slots' : Nat), LInv s dC dI cy b a_x a_m a_o i (i + 5) σ' ra' o' w' H' locs' ls' cells' slots' → W p l e room_1 s m #[Value.ref b] below meth c H' locs' cells' slots' Q (F0 m 1161 ls' [])) :
    W p l e room_1 s m #[Value.ref b] below meth c H0 locs cells slots Q (F0 m 828 ls []) := by
  obtain ⟨hx, hb, hml, hown, hts, ht1, hX, hbl, hK, hE, hEx⟩ := C
  obtain ⟨hS, hW, hP, hD, hSt, hl, hc, hs⟩ := V
  have hzq := LW_q hW
  have hA : ∀ q : Nat, s.heap.size ≤ q → (fun q : Nat => s.heap.size ≤ q) q := fun _ h => h
  have hbA : ¬ (fun q : Nat => s.heap.size ≤ q) b := Nat.not_le.mpr hbl
  have hn1 : vp_in (nI i + 1) L := by rw [show (1 : Int32) = nI 1 from rfl, nI_add]; exact vp_in_nI (by omega) (by omega)
  have hn2 : vp_in (nI i + 2) L := by rw [show (2 : Int32) = nI 2 from rfl, nI_add]; exact vp_in_nI (by omega) (by omega)
  have hn3 : vp_in (nI i + 3) L := by rw [show (3 : Int32) = nI 3 from rfl, nI_add]; exact vp_in_nI (by omega) (by omega)
  have hn4 : vp_in (nI i + 4) L := by rw [show (4 : Int32) = nI 4 from rfl, nI_add]; exact vp_in_nI (by omega) (by omega)
  refine lv_aload_n hx hb dL_law_828 rfl (lv_at hl 1 rfl) ?_
  refine lv_aload_n hx hb dL_law_829 rfl (lv_at hl 0 rfl) ?_
  refine lv_iload hx hb dL_law_830 (lv_at hl 4 rfl) ?_
  refine lv_iconst (v := 1) hx hb dL_law_832 (by decide) ?_
  refine lv_iadd hx hb dL_law_833 ?_
  refine va_sld hx hb hX hbl hbA hSt hn1 dL_law_834 ?_
  obtain ⟨rm1, mc1, ms1, f1, g1, rc1, rs1, bc1, bs1, hM1⟩ := lx_other (l := l) (ad := ad) (dC := dC) (dI := dI) (sz := H0.size) hS hW ((xs (nI i + 1).toNatClampNeg))
  obtain ⟨fx, hx0⟩ := LW_x hW
  refine LVi (As := [.int (xs (nI i + 1).toNatClampNeg)]) (rest := []) ⟨hx, hb, hml, hown, hts⟩ hM1 (cwV 1 hts gL_law_X6_other rfl rc1 rs1 qlX6_other ⟨Nat.succ_le_succ f1, Nat.le_trans (Nat.add_le_add_left g1 _) (Nat.le_of_ble_eq_true rfl)⟩) hE hK hP hD hSt hA 6 rfl rfl hx0 rfl hl.1 rfl (Nat.le_of_ble_eq_true rfl) dL_law_835 ⟨(by show cells + mc1 ≤ 601024; omega), (by show slots + ms1 ≤ 7293034; omega)⟩ (fun r1 σ1 w1 H1 locs1 hp1 hW1 hP1 hD1 hSt1 => ?_)
  obtain ⟨hC1, hS1, hq1, hq2⟩ := hp1
  have hzq1 := LW_q hW1
  refine lv_aload_n hx hb dL_law_838 rfl (lv_at hl 2 rfl) ?_
  refine lv_aload_n hx hb dL_law_839 rfl (lv_at hl 0 rfl) ?_
  refine lv_iload hx hb dL_law_840 (lv_at hl 4 rfl) ?_
  refine lv_iconst (v := 1) hx hb dL_law_842 (by decide) ?_
  refine lv_iadd hx hb dL_law_843 ?_
  refine va_sld hx hb hX hbl hbA hSt1 hn1 dL_law_844 ?_
  obtain ⟨rm2, f2, g2, rc2, rs2, hM2⟩ := ly_other (l := l) (ad := ad) (dC := dC) (dI := dI) (sz := H1.size) hS hW1 ((xs (nI i + 1).toNatClampNeg))
  obtain ⟨k2, fm, hm0⟩ := LW_m hW1
  refine LVi (As := [.int (xs (nI i + 1).toNatClampNeg)]) (rest := [.int r1]) ⟨hx, hb, hml, hown, hts⟩ hM2 (cwV 1 hts gL_law_X7_other rfl rc2 rs2 qlX7_other ⟨Nat.succ_le_succ f2, Nat.le_trans (Nat.add_le_add_left g2 _) (Nat.le_of_ble_eq_true rfl)⟩) hE hK hP1 hD1 hSt1 hA 7 rfl rfl hm0 rfl hl.1 rfl (Nat.le_of_ble_eq_true rfl) dL_law_845 ⟨(by show cells + mc1 + 0 ≤ 601024; omega), (by show slots + ms1 + 0 ≤ 7293034; omega)⟩ (fun r2 ζ2 w2 H2 locs2 hC2 hW2 hP2 hD2 hSt2 => ?_)
  obtain ⟨Ia, Ha, Ja, rb⟩ := ζ2
  obtain ⟨e1, e2, e3, e4⟩ := C_other_un hS hC1 hC2
  replace e2 : σ1.1 = Ia := e2
  replace e3 : σ1.2.1 = Ha := e3
  replace e4 : σ1.2.2.2.1 = Ja := e4
  subst e2 e3 e4
  refine lv_icmp_eq (tgt := 1161) hx hb dL_law_848 (by decide) (fun _ => ?_) (fun z => absurd e1 z)
  exact kk σ1 rb o w2 H2 locs2 ls _ _ ⟨hS1, hW2, hP2, hD2, hSt2, hl, by omega, by omega⟩
set_option maxHeartbeats 4000000 in
set_option maxRecDepth 100000 in
theorem lc_without {p : Program} {l : Launch} {e : Env} {s : State} {m : MethodId} {below : List Frame} {meth : Method} {c : Code} {b L : Nat} {xs : Nat → Int32} {ad : (Nat → Nat) × (Nat → Nat)} {dC : Nat → ClassId} {dI : Nat → Nat → Nat} {cy : Nat → ClassId} {a_x a_m a_o : Nat} {Q : State → Prop} {i : Nat} {I : ZI} {H : List ZL} {d : ZC} {J : Nat → Option ZI} {qc qt qf : Nat × Nat} {ra : Int32} {o : Nat → Int64} {w : va_W} {H0 : Heap} {locs : List Loc} {ls : Array Slot} {cells slots : Nat} (C : LCtx p s m c b L xs ad dC dI cy) (hi : i + 5 ≤ L) (hL : L ≤ 2560) (V : LInv s dC dI cy b a_x a_m a_o i i (I, H, d, J, qc, qt, qf) ra o w H0 locs ls cells slots)
    (kk : ∀ (σ' : ZS) (ra' : Int32) (o' : Nat → Int64) (w' : va_W) (H' : Heap) (locs' : List Loc) (ls' : Array Slot) (cells' slots' : Nat), LInv s dC dI cy b a_x a_m a_o i (i + 5) σ' ra' o' w' H' locs' ls' cells' slots' → W p l e room_1 s m #[Value.ref b] below meth c H' locs' cells' slots' Q (F0 m 1161 ls' [])) :
    W p l e room_1 s m #[Value.ref b] below meth c H0 locs cells slots Q (F0 m 853 ls []) := by
  obtain ⟨hx, hb, hml, hown, hts, ht1, hX, hbl, hK, hE, hEx⟩ := C
  obtain ⟨hS, hW, hP, hD, hSt, hl, hc, hs⟩ := V
  have hzq := LW_q hW
  have hA : ∀ q : Nat, s.heap.size ≤ q → (fun q : Nat => s.heap.size ≤ q) q := fun _ h => h
  have hbA : ¬ (fun q : Nat => s.heap.size ≤ q) b := Nat.not_le.mpr hbl
  have hn1 : vp_in (nI i + 1) L := by rw [show (1 : Int32) = nI 1 from rfl, nI_add]; exact vp_in_nI (by omega) (by omega)
  have hn2 : vp_in (nI i + 2) L := by rw [show (2 : Int32) = nI 2 from rfl, nI_add]; exact vp_in_nI (by omega) (by omega)
  have hn3 : vp_in (nI i + 3) L := by rw [show (3 : Int32) = nI 3 from rfl, nI_add]; exact vp_in_nI (by omega) (by omega)
  have hn4 : vp_in (nI i + 4) L := by rw [show (4 : Int32) = nI 4 from rfl, nI_add]; exact vp_in_nI (by omega) (by omega)
  refine lv_aload_n hx hb dL_law_853 rfl (lv_at hl 1 rfl) ?_
  refine lv_aload_n hx hb dL_law_854 rfl (lv_at hl 0 rfl) ?_
  refine lv_iload hx hb dL_law_855 (lv_at hl 4 rfl) ?_
  refine lv_iconst (v := 1) hx hb dL_law_857 (by decide) ?_
  refine lv_iadd hx hb dL_law_858 ?_
  refine va_sld hx hb hX hbl hbA hSt hn1 dL_law_859 ?_
  obtain ⟨rm1, mc1, ms1, f1, g1, rc1, rs1, bc1, bs1, hM1⟩ := lx_without (l := l) (ad := ad) (dC := dC) (dI := dI) (sz := H0.size) hS hW ((xs (nI i + 1).toNatClampNeg))
  obtain ⟨fx, hx0⟩ := LW_x hW
  refine LVi (As := [.int (xs (nI i + 1).toNatClampNeg)]) (rest := []) ⟨hx, hb, hml, hown, hts⟩ hM1 (cwV 1 hts gL_law_X6_without rfl rc1 rs1 qlX6_without ⟨Nat.succ_le_succ f1, Nat.le_trans (Nat.add_le_add_left g1 _) (Nat.le_of_ble_eq_true rfl)⟩) hE hK hP hD hSt hA 6 rfl rfl hx0 rfl hl.1 rfl (Nat.le_of_ble_eq_true rfl) dL_law_860 ⟨(by show cells + mc1 ≤ 601024; omega), (by show slots + ms1 ≤ 7293034; omega)⟩ (fun r1 σ1 w1 H1 locs1 hp1 hW1 hP1 hD1 hSt1 => ?_)
  obtain ⟨hC1, hS1, hq1, hq2⟩ := hp1
  have hzq1 := LW_q hW1
  refine lv_aload_n hx hb dL_law_863 rfl (lv_at hl 2 rfl) ?_
  refine lv_aload_n hx hb dL_law_864 rfl (lv_at hl 0 rfl) ?_
  refine lv_iload hx hb dL_law_865 (lv_at hl 4 rfl) ?_
  refine lv_iconst (v := 1) hx hb dL_law_867 (by decide) ?_
  refine lv_iadd hx hb dL_law_868 ?_
  refine va_sld hx hb hX hbl hbA hSt1 hn1 dL_law_869 ?_
  obtain ⟨rm2, f2, g2, rc2, rs2, hM2⟩ := ly_without (l := l) (ad := ad) (dC := dC) (dI := dI) (sz := H1.size) hS hW1 ((xs (nI i + 1).toNatClampNeg))
  obtain ⟨k2, fm, hm0⟩ := LW_m hW1
  refine LVi (As := [.int (xs (nI i + 1).toNatClampNeg)]) (rest := [.int r1]) ⟨hx, hb, hml, hown, hts⟩ hM2 (cwV 1 hts gL_law_X7_without rfl rc2 rs2 qlX7_without ⟨Nat.succ_le_succ f2, Nat.le_trans (Nat.add_le_add_left g2 _) (Nat.le_of_ble_eq_true rfl)⟩) hE hK hP1 hD1 hSt1 hA 7 rfl rfl hm0 rfl hl.1 rfl (Nat.le_of_ble_eq_true rfl) dL_law_870 ⟨(by show cells + mc1 + 0 ≤ 601024; omega), (by show slots + ms1 + 0 ≤ 7293034; omega)⟩ (fun r2 ζ2 w2 H2 locs2 hC2 hW2 hP2 hD2 hSt2 => ?_)
  obtain ⟨Ia, Ha, Ja, rb⟩ := ζ2
  obtain ⟨e1, e2, e3, e4⟩ := C_without_un hS hC1 hC2
  replace e2 : σ1.1 = Ia := e2
  replace e3 : σ1.2.1 = Ha := e3
  replace e4 : σ1.2.2.2.1 = Ja := e4
  subst e2 e3 e4
  refine lv_icmp_eq (tgt := 1161) hx hb dL_law_873 (by decide) (fun _ => ?_) (fun z => absurd e1 z)
  exact kk σ1 rb o w2 H2 locs2 ls _ _ ⟨hS1, hW2, hP2, hD2, hSt2, hl, by omega, by omega⟩
set_option maxHeartbeats 4000000 in
set_option maxRecDepth 100000 in
theorem lc_with {p : Program} {l : Launch} {e : Env} {s : State} {m : MethodId} {below : List Frame} {meth : Method} {c : Code} {b L : Nat} {xs : Nat → Int32} {ad : (Nat → Nat) × (Nat → Nat)} {dC : Nat → ClassId} {dI : Nat → Nat → Nat} {cy : Nat → ClassId} {a_x a_m a_o : Nat} {Q : State → Prop} {i : Nat} {I : ZI} {H : List ZL} {d : ZC} {J : Nat → Option ZI} {qc qt qf : Nat × Nat} {ra : Int32} {o : Nat → Int64} {w : va_W} {H0 : Heap} {locs : List Loc} {ls : Array Slot} {cells slots : Nat} (C : LCtx p s m c b L xs ad dC dI cy) (hi : i + 5 ≤ L) (hL : L ≤ 2560) (V : LInv s dC dI cy b a_x a_m a_o i i (I, H, d, J, qc, qt, qf) ra o w H0 locs ls cells slots)
    (kk : ∀ (σ' : ZS) (ra' : Int32) (o' : Nat → Int64) (w' : va_W) (H' : Heap) (locs' : List Loc) (ls' : Array Slot) (cells' slots' : Nat), LInv s dC dI cy b a_x a_m a_o i (i + 5) σ' ra' o' w' H' locs' ls' cells' slots' → W p l e room_1 s m #[Value.ref b] below meth c H' locs' cells' slots' Q (F0 m 1161 ls' [])) :
    W p l e room_1 s m #[Value.ref b] below meth c H0 locs cells slots Q (F0 m 878 ls []) := by
  obtain ⟨hx, hb, hml, hown, hts, ht1, hX, hbl, hK, hE, hEx⟩ := C
  obtain ⟨hS, hW, hP, hD, hSt, hl, hc, hs⟩ := V
  have hzq := LW_q hW
  have hA : ∀ q : Nat, s.heap.size ≤ q → (fun q : Nat => s.heap.size ≤ q) q := fun _ h => h
  have hbA : ¬ (fun q : Nat => s.heap.size ≤ q) b := Nat.not_le.mpr hbl
  have hn1 : vp_in (nI i + 1) L := by rw [show (1 : Int32) = nI 1 from rfl, nI_add]; exact vp_in_nI (by omega) (by omega)
  have hn2 : vp_in (nI i + 2) L := by rw [show (2 : Int32) = nI 2 from rfl, nI_add]; exact vp_in_nI (by omega) (by omega)
  have hn3 : vp_in (nI i + 3) L := by rw [show (3 : Int32) = nI 3 from rfl, nI_add]; exact vp_in_nI (by omega) (by omega)
  have hn4 : vp_in (nI i + 4) L := by rw [show (4 : Int32) = nI 4 from rfl, nI_add]; exact vp_in_nI (by omega) (by omega)
  refine lv_aload_n hx hb dL_law_878 rfl (lv_at hl 1 rfl) ?_
  refine lv_aload_n hx hb dL_law_879 rfl (lv_at hl 0 rfl) ?_
  refine lv_iload hx hb dL_law_880 (lv_at hl 4 rfl) ?_
  refine lv_iconst (v := 1) hx hb dL_law_882 (by decide) ?_
  refine lv_iadd hx hb dL_law_883 ?_
  refine va_sld hx hb hX hbl hbA hSt hn1 dL_law_884 ?_
  obtain ⟨rm1, mc1, ms1, f1, g1, rc1, rs1, bc1, bs1, hM1⟩ := lx_with (l := l) (ad := ad) (dC := dC) (dI := dI) (sz := H0.size) hS hW ((xs (nI i + 1).toNatClampNeg))
  obtain ⟨fx, hx0⟩ := LW_x hW
  refine LVi (As := [.int (xs (nI i + 1).toNatClampNeg)]) (rest := []) ⟨hx, hb, hml, hown, hts⟩ hM1 (cwV 1 hts gL_law_X6_with rfl rc1 rs1 qlX6_with ⟨Nat.succ_le_succ f1, Nat.le_trans (Nat.add_le_add_left g1 _) (Nat.le_of_ble_eq_true rfl)⟩) hE hK hP hD hSt hA 6 rfl rfl hx0 rfl hl.1 rfl (Nat.le_of_ble_eq_true rfl) dL_law_885 ⟨(by show cells + mc1 ≤ 601024; omega), (by show slots + ms1 ≤ 7293034; omega)⟩ (fun r1 σ1 w1 H1 locs1 hp1 hW1 hP1 hD1 hSt1 => ?_)
  obtain ⟨hC1, hS1, hq1, hq2⟩ := hp1
  have hzq1 := LW_q hW1
  refine lv_aload_n hx hb dL_law_888 rfl (lv_at hl 2 rfl) ?_
  refine lv_aload_n hx hb dL_law_889 rfl (lv_at hl 0 rfl) ?_
  refine lv_iload hx hb dL_law_890 (lv_at hl 4 rfl) ?_
  refine lv_iconst (v := 1) hx hb dL_law_892 (by decide) ?_
  refine lv_iadd hx hb dL_law_893 ?_
  refine va_sld hx hb hX hbl hbA hSt1 hn1 dL_law_894 ?_
  obtain ⟨rm2, f2, g2, rc2, rs2, hM2⟩ := ly_with (l := l) (ad := ad) (dC := dC) (dI := dI) (sz := H1.size) hS hW1 ((xs (nI i + 1).toNatClampNeg))
  obtain ⟨k2, fm, hm0⟩ := LW_m hW1
  refine LVi (As := [.int (xs (nI i + 1).toNatClampNeg)]) (rest := [.int r1]) ⟨hx, hb, hml, hown, hts⟩ hM2 (cwV 1 hts gL_law_X7_with rfl rc2 rs2 qlX7_with ⟨Nat.succ_le_succ f2, Nat.le_trans (Nat.add_le_add_left g2 _) (Nat.le_of_ble_eq_true rfl)⟩) hE hK hP1 hD1 hSt1 hA 7 rfl rfl hm0 rfl hl.1 rfl (Nat.le_of_ble_eq_true rfl) dL_law_895 ⟨(by show cells + mc1 + 0 ≤ 601024; omega), (by show slots + ms1 + 0 ≤ 7293034; omega)⟩ (fun r2 ζ2 w2 H2 locs2 hC2 hW2 hP2 hD2 hSt2 => ?_)
  obtain ⟨Ia, Ha, Ja, rb⟩ := ζ2
  obtain ⟨e1, e2, e3, e4⟩ := C_with_un hS hC1 hC2
  replace e2 : σ1.1 = Ia := e2
  replace e3 : σ1.2.1 = Ha := e3
  replace e4 : σ1.2.2.2.1 = Ja := e4
  subst e2 e3 e4
  refine lv_icmp_eq (tgt := 1161) hx hb dL_law_898 (by decide) (fun _ => ?_) (fun z => absurd e1 z)
  exact kk σ1 rb o w2 H2 locs2 ls _ _ ⟨hS1, hW2, hP2, hD2, hSt2, hl, by omega, by omega⟩
set_option maxHeartbeats 4000000 in
set_option maxRecDepth 100000 in
theorem lc_least {p : Program} {l : Launch} {e : Env} {s : State} {m : MethodId} {below : List Frame} {meth : Method} {c : Code} {b L : Nat} {xs : Nat → Int32} {ad : (Nat → Nat) × (Nat → Nat)} {dC : Nat → ClassId} {dI : Nat → Nat → Nat} {cy : Nat → ClassId} {a_x a_m a_o : Nat} {Q : State → Prop} {i : Nat} {I : ZI} {H : List ZL} {d : ZC} {J : Nat → Option ZI} {qc qt qf : Nat × Nat} {ra : Int32} {o : Nat → Int64} {w : va_W} {H0 : Heap} {locs : List Loc} {ls : Array Slot} {cells slots : Nat} (C : LCtx p s m c b L xs ad dC dI cy) (hi : i + 5 ≤ L) (hL : L ≤ 2560) (V : LInv s dC dI cy b a_x a_m a_o i i (I, H, d, J, qc, qt, qf) ra o w H0 locs ls cells slots)
    (kk : ∀ (σ' : ZS) (ra' : Int32) (o' : Nat → Int64) (w' : va_W) (H' : Heap) (locs' : List Loc) (ls' : Array Slot) (cells' slots' : Nat), LInv s dC dI cy b a_x a_m a_o i (i + 5) σ' ra' o' w' H' locs' ls' cells' slots' → W p l e room_1 s m #[Value.ref b] below meth c H' locs' cells' slots' Q (F0 m 1161 ls' [])) :
    W p l e room_1 s m #[Value.ref b] below meth c H0 locs cells slots Q (F0 m 903 ls []) := by
  obtain ⟨hx, hb, hml, hown, hts, ht1, hX, hbl, hK, hE, hEx⟩ := C
  obtain ⟨hS, hW, hP, hD, hSt, hl, hc, hs⟩ := V
  have hzq := LW_q hW
  have hA : ∀ q : Nat, s.heap.size ≤ q → (fun q : Nat => s.heap.size ≤ q) q := fun _ h => h
  have hbA : ¬ (fun q : Nat => s.heap.size ≤ q) b := Nat.not_le.mpr hbl
  have hn1 : vp_in (nI i + 1) L := by rw [show (1 : Int32) = nI 1 from rfl, nI_add]; exact vp_in_nI (by omega) (by omega)
  have hn2 : vp_in (nI i + 2) L := by rw [show (2 : Int32) = nI 2 from rfl, nI_add]; exact vp_in_nI (by omega) (by omega)
  have hn3 : vp_in (nI i + 3) L := by rw [show (3 : Int32) = nI 3 from rfl, nI_add]; exact vp_in_nI (by omega) (by omega)
  have hn4 : vp_in (nI i + 4) L := by rw [show (4 : Int32) = nI 4 from rfl, nI_add]; exact vp_in_nI (by omega) (by omega)
  refine lv_aload_n hx hb dL_law_903 rfl (lv_at hl 1 rfl) ?_
  refine lv_aload_n hx hb dL_law_904 rfl (lv_at hl 0 rfl) ?_
  refine lv_iload hx hb dL_law_905 (lv_at hl 4 rfl) ?_
  refine lv_iconst (v := 1) hx hb dL_law_907 (by decide) ?_
  refine lv_iadd hx hb dL_law_908 ?_
  refine va_sld hx hb hX hbl hbA hSt hn1 dL_law_909 ?_
  obtain ⟨rm1, mc1, ms1, f1, g1, rc1, rs1, bc1, bs1, hM1⟩ := lx_least (l := l) (ad := ad) (dC := dC) (dI := dI) (sz := H0.size) hS hW ((xs (nI i + 1).toNatClampNeg))
  obtain ⟨fx, hx0⟩ := LW_x hW
  refine LVi (As := [.int (xs (nI i + 1).toNatClampNeg)]) (rest := []) ⟨hx, hb, hml, hown, hts⟩ hM1 (cwV 1 hts gL_law_X6_least rfl rc1 rs1 qlX6_least ⟨Nat.succ_le_succ f1, Nat.le_trans (Nat.add_le_add_left g1 _) (Nat.le_of_ble_eq_true rfl)⟩) hE hK hP hD hSt hA 6 rfl rfl hx0 rfl hl.1 rfl (Nat.le_of_ble_eq_true rfl) dL_law_910 ⟨(by show cells + mc1 ≤ 601024; omega), (by show slots + ms1 ≤ 7293034; omega)⟩ (fun r1 σ1 w1 H1 locs1 hp1 hW1 hP1 hD1 hSt1 => ?_)
  obtain ⟨hC1, hS1, hq1, hq2⟩ := hp1
  have hzq1 := LW_q hW1
  refine lv_aload_n hx hb dL_law_913 rfl (lv_at hl 2 rfl) ?_
  refine lv_aload_n hx hb dL_law_914 rfl (lv_at hl 0 rfl) ?_
  refine lv_iload hx hb dL_law_915 (lv_at hl 4 rfl) ?_
  refine lv_iconst (v := 1) hx hb dL_law_917 (by decide) ?_
  refine lv_iadd hx hb dL_law_918 ?_
  refine va_sld hx hb hX hbl hbA hSt1 hn1 dL_law_919 ?_
  obtain ⟨rm2, f2, g2, rc2, rs2, hM2⟩ := ly_least (l := l) (ad := ad) (dC := dC) (dI := dI) (sz := H1.size) hS hW1 ((xs (nI i + 1).toNatClampNeg))
  obtain ⟨k2, fm, hm0⟩ := LW_m hW1
  refine LVi (As := [.int (xs (nI i + 1).toNatClampNeg)]) (rest := [.int r1]) ⟨hx, hb, hml, hown, hts⟩ hM2 (cwV 1 hts gL_law_X7_least rfl rc2 rs2 qlX7_least ⟨Nat.succ_le_succ f2, Nat.le_trans (Nat.add_le_add_left g2 _) (Nat.le_of_ble_eq_true rfl)⟩) hE hK hP1 hD1 hSt1 hA 7 rfl rfl hm0 rfl hl.1 rfl (Nat.le_of_ble_eq_true rfl) dL_law_920 ⟨(by show cells + mc1 + 0 ≤ 601024; omega), (by show slots + ms1 + 0 ≤ 7293034; omega)⟩ (fun r2 ζ2 w2 H2 locs2 hC2 hW2 hP2 hD2 hSt2 => ?_)
  obtain ⟨Ia, Ha, Ja, rb⟩ := ζ2
  obtain ⟨e1, e2, e3, e4⟩ := C_least_un hS hC1 hC2
  replace e2 : σ1.1 = Ia := e2
  replace e3 : σ1.2.1 = Ha := e3
  replace e4 : σ1.2.2.2.1 = Ja := e4
  subst e2 e3 e4
  refine lv_icmp_eq (tgt := 1161) hx hb dL_law_923 (by decide) (fun _ => ?_) (fun z => absurd e1 z)
  exact kk σ1 rb o w2 H2 locs2 ls _ _ ⟨hS1, hW2, hP2, hD2, hSt2, hl, by omega, by omega⟩
set_option maxHeartbeats 4000000 in
set_option maxRecDepth 100000 in
theorem lc_ahead {p : Program} {l : Launch} {e : Env} {s : State} {m : MethodId} {below : List Frame} {meth : Method} {c : Code} {b L : Nat} {xs : Nat → Int32} {ad : (Nat → Nat) × (Nat → Nat)} {dC : Nat → ClassId} {dI : Nat → Nat → Nat} {cy : Nat → ClassId} {a_x a_m a_o : Nat} {Q : State → Prop} {i : Nat} {I : ZI} {H : List ZL} {d : ZC} {J : Nat → Option ZI} {qc qt qf : Nat × Nat} {ra : Int32} {o : Nat → Int64} {w : va_W} {H0 : Heap} {locs : List Loc} {ls : Array Slot} {cells slots : Nat} (C : LCtx p s m c b L xs ad dC dI cy) (hi : i + 5 ≤ L) (hL : L ≤ 2560) (V : LInv s dC dI cy b a_x a_m a_o i i (I, H, d, J, qc, qt, qf) ra o w H0 locs ls cells slots)
    (kk : ∀ (σ' : ZS) (ra' : Int32) (o' : Nat → Int64) (w' : va_W) (H' : Heap) (locs' : List Loc) (ls' : Array Slot) (cells' slots' : Nat), LInv s dC dI cy b a_x a_m a_o i (i + 5) σ' ra' o' w' H' locs' ls' cells' slots' → W p l e room_1 s m #[Value.ref b] below meth c H' locs' cells' slots' Q (F0 m 1161 ls' [])) :
    W p l e room_1 s m #[Value.ref b] below meth c H0 locs cells slots Q (F0 m 928 ls []) := by
  obtain ⟨hx, hb, hml, hown, hts, ht1, hX, hbl, hK, hE, hEx⟩ := C
  obtain ⟨hS, hW, hP, hD, hSt, hl, hc, hs⟩ := V
  have hzq := LW_q hW
  have hA : ∀ q : Nat, s.heap.size ≤ q → (fun q : Nat => s.heap.size ≤ q) q := fun _ h => h
  have hbA : ¬ (fun q : Nat => s.heap.size ≤ q) b := Nat.not_le.mpr hbl
  have hn1 : vp_in (nI i + 1) L := by rw [show (1 : Int32) = nI 1 from rfl, nI_add]; exact vp_in_nI (by omega) (by omega)
  have hn2 : vp_in (nI i + 2) L := by rw [show (2 : Int32) = nI 2 from rfl, nI_add]; exact vp_in_nI (by omega) (by omega)
  have hn3 : vp_in (nI i + 3) L := by rw [show (3 : Int32) = nI 3 from rfl, nI_add]; exact vp_in_nI (by omega) (by omega)
  have hn4 : vp_in (nI i + 4) L := by rw [show (4 : Int32) = nI 4 from rfl, nI_add]; exact vp_in_nI (by omega) (by omega)
  refine lv_aload_n hx hb dL_law_928 rfl (lv_at hl 1 rfl) ?_
  refine lv_aload_n hx hb dL_law_929 rfl (lv_at hl 0 rfl) ?_
  refine lv_iload hx hb dL_law_930 (lv_at hl 4 rfl) ?_
  refine lv_iconst (v := 1) hx hb dL_law_932 (by decide) ?_
  refine lv_iadd hx hb dL_law_933 ?_
  refine va_sld hx hb hX hbl hbA hSt hn1 dL_law_934 ?_
  refine lv_bool hx hb dL_law_935 dL_law_938 dL_law_939 dL_law_942 ?_
  obtain ⟨rm1, mc1, ms1, f1, g1, rc1, rs1, bc1, bs1, hM1⟩ := lx_ahead (l := l) (ad := ad) (dC := dC) (dI := dI) (sz := H0.size) hS hW ((if (xs (nI i + 1).toNatClampNeg) = 0 then 0 else 1))
  obtain ⟨fx, hx0⟩ := LW_x hW
  refine LVi (As := [.int (if (xs (nI i + 1).toNatClampNeg) = 0 then 0 else 1)]) (rest := []) ⟨hx, hb, hml, hown, hts⟩ hM1 (cwV 1 hts gL_law_X6_ahead rfl rc1 rs1 qlX6_ahead ⟨Nat.succ_le_succ f1, Nat.le_trans (Nat.add_le_add_left g1 _) (Nat.le_of_ble_eq_true rfl)⟩) hE hK hP hD hSt hA 6 rfl rfl hx0 rfl hl.1 rfl (Nat.le_of_ble_eq_true rfl) dL_law_943 ⟨(by show cells + mc1 ≤ 601024; omega), (by show slots + ms1 ≤ 7293034; omega)⟩ (fun r1 σ1 w1 H1 locs1 hp1 hW1 hP1 hD1 hSt1 => ?_)
  obtain ⟨hC1, hS1, hq1, hq2⟩ := hp1
  have hzq1 := LW_q hW1
  refine lv_aload_n hx hb dL_law_946 rfl (lv_at hl 2 rfl) ?_
  refine lv_aload_n hx hb dL_law_947 rfl (lv_at hl 0 rfl) ?_
  refine lv_iload hx hb dL_law_948 (lv_at hl 4 rfl) ?_
  refine lv_iconst (v := 1) hx hb dL_law_950 (by decide) ?_
  refine lv_iadd hx hb dL_law_951 ?_
  refine va_sld hx hb hX hbl hbA hSt1 hn1 dL_law_952 ?_
  refine lv_bool hx hb dL_law_953 dL_law_956 dL_law_957 dL_law_960 ?_
  obtain ⟨rm2, f2, g2, rc2, rs2, hM2⟩ := ly_ahead (l := l) (ad := ad) (dC := dC) (dI := dI) (sz := H1.size) hS hW1 ((if (xs (nI i + 1).toNatClampNeg) = 0 then 0 else 1))
  obtain ⟨k2, fm, hm0⟩ := LW_m hW1
  refine LVi (As := [.int (if (xs (nI i + 1).toNatClampNeg) = 0 then 0 else 1)]) (rest := [.int r1]) ⟨hx, hb, hml, hown, hts⟩ hM2 (cwV 1 hts gL_law_X7_ahead rfl rc2 rs2 qlX7_ahead ⟨Nat.succ_le_succ f2, Nat.le_trans (Nat.add_le_add_left g2 _) (Nat.le_of_ble_eq_true rfl)⟩) hE hK hP1 hD1 hSt1 hA 7 rfl rfl hm0 rfl hl.1 rfl (Nat.le_of_ble_eq_true rfl) dL_law_961 ⟨(by show cells + mc1 + 0 ≤ 601024; omega), (by show slots + ms1 + 0 ≤ 7293034; omega)⟩ (fun r2 ζ2 w2 H2 locs2 hC2 hW2 hP2 hD2 hSt2 => ?_)
  obtain ⟨Ia, Ha, Ja, rb⟩ := ζ2
  obtain ⟨e1, e2, e3, e4⟩ := C_ahead_un hS hC1 hC2
  replace e2 : σ1.1 = Ia := e2
  replace e3 : σ1.2.1 = Ha := e3
  replace e4 : σ1.2.2.2.1 = Ja := e4
  subst e2 e3 e4
  refine lv_icmp_eq (tgt := 1161) hx hb dL_law_964 (by decide) (fun _ => ?_) (fun z => absurd e1 z)
  exact kk σ1 rb o w2 H2 locs2 ls _ _ ⟨hS1, hW2, hP2, hD2, hSt2, hl, by omega, by omega⟩
