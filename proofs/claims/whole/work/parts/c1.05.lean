set_option maxHeartbeats 4000000 in
set_option maxRecDepth 100000 in
theorem lc_shelve {p : Program} {l : Launch} {e : Env} {s : State} {m : MethodId} {below : List Frame} {meth : Method} {c : Code} {b L : Nat} {xs : Nat → Int32} {ad : (Nat → Nat) × (Nat → Nat)} {dC : Nat → ClassId} {dI : Nat → Nat → Nat} {cy : Nat → ClassId} {a_x a_m a_o : Nat} {Q : State → Prop} {i : Nat} {I : ZI} {H : List ZL} {d : ZC} {J : Nat → Option ZI} {qc qt qf : Nat × Nat} {ra : Int32} {o : Nat → Int64} {w : va_W} {H0 : Heap} {locs : List Loc} {ls : Array Slot} {cells slots : Nat} (C : LCtx p s m c b L xs ad dC dI cy) (hi : i + 5 ≤ L) (hL : L ≤ 2560) (V : LInv s dC dI cy b a_x a_m a_o i i (I, H, d, J, qc, qt, qf) ra o w H0 locs ls cells slots)
    (kk : ∀ (σ' : ZS) (ra' : Int32) (o' : Nat → Int64) (w' : va_W) (H' : Heap) (locs' : List Loc) (ls' : Array Slot) (cells' slots' : Nat), LInv s dC dI cy b a_x a_m a_o i (i + 5) σ' ra' o' w' H' locs' ls' cells' slots' → W p l e room_1 s m #[Value.ref b] below meth c H' locs' cells' slots' Q (F0 m 1161 ls' [])) :
    W p l e room_1 s m #[Value.ref b] below meth c H0 locs cells slots Q (F0 m 969 ls []) := by
  obtain ⟨hx, hb, hml, hown, hts, ht1, hX, hbl, hK, hE, hEx⟩ := C
  obtain ⟨hS, hW, hP, hD, hSt, hl, hc, hs⟩ := V
  have hzq := LW_q hW
  have hA : ∀ q : Nat, s.heap.size ≤ q → (fun q : Nat => s.heap.size ≤ q) q := fun _ h => h
  have hbA : ¬ (fun q : Nat => s.heap.size ≤ q) b := Nat.not_le.mpr hbl
  have hn1 : vp_in (nI i + 1) L := by rw [show (1 : Int32) = nI 1 from rfl, nI_add]; exact vp_in_nI (by omega) (by omega)
  have hn2 : vp_in (nI i + 2) L := by rw [show (2 : Int32) = nI 2 from rfl, nI_add]; exact vp_in_nI (by omega) (by omega)
  have hn3 : vp_in (nI i + 3) L := by rw [show (3 : Int32) = nI 3 from rfl, nI_add]; exact vp_in_nI (by omega) (by omega)
  have hn4 : vp_in (nI i + 4) L := by rw [show (4 : Int32) = nI 4 from rfl, nI_add]; exact vp_in_nI (by omega) (by omega)
  refine lv_aload_n hx hb dL_law_969 rfl (lv_at hl 1 rfl) ?_
  refine lv_aload_n hx hb dL_law_970 rfl (lv_at hl 0 rfl) ?_
  refine lv_iload hx hb dL_law_971 (lv_at hl 4 rfl) ?_
  refine lv_iconst (v := 1) hx hb dL_law_973 (by decide) ?_
  refine lv_iadd hx hb dL_law_974 ?_
  refine va_sld hx hb hX hbl hbA hSt hn1 dL_law_975 ?_
  refine lv_aload_n hx hb dL_law_976 rfl (lv_at hl 0 rfl) ?_
  refine lv_iload hx hb dL_law_977 (lv_at hl 4 rfl) ?_
  refine lv_iconst (v := 2) hx hb dL_law_979 (by decide) ?_
  refine lv_iadd hx hb dL_law_980 ?_
  refine va_sld hx hb hX hbl hbA hSt hn2 dL_law_981 ?_
  refine lv_aload_n hx hb dL_law_982 rfl (lv_at hl 0 rfl) ?_
  refine lv_iload hx hb dL_law_983 (lv_at hl 4 rfl) ?_
  refine lv_iconst (v := 3) hx hb dL_law_985 (by decide) ?_
  refine lv_iadd hx hb dL_law_986 ?_
  refine va_sld hx hb hX hbl hbA hSt hn3 dL_law_987 ?_
  refine lv_bool hx hb dL_law_988 dL_law_991 dL_law_992 dL_law_995 ?_
  refine lv_aload_n hx hb dL_law_996 rfl (lv_at hl 0 rfl) ?_
  refine lv_iload hx hb dL_law_997 (lv_at hl 4 rfl) ?_
  refine lv_iconst (v := 4) hx hb dL_law_999 (by decide) ?_
  refine lv_iadd hx hb dL_law_1000 ?_
  refine va_sld hx hb hX hbl hbA hSt hn4 dL_law_1001 ?_
  obtain ⟨rm1, mc1, ms1, f1, g1, rc1, rs1, bc1, bs1, hM1⟩ := lx_shelve (l := l) (ad := ad) (dC := dC) (dI := dI) (sz := H0.size) hS hW ((xs (nI i + 1).toNatClampNeg)) ((xs (nI i + 2).toNatClampNeg)) ((if (xs (nI i + 3).toNatClampNeg) = 0 then 0 else 1)) ((xs (nI i + 4).toNatClampNeg))
  obtain ⟨fx, hx0⟩ := LW_x hW
  refine LVi (As := [.int (xs (nI i + 1).toNatClampNeg), .int (xs (nI i + 2).toNatClampNeg), .int (if (xs (nI i + 3).toNatClampNeg) = 0 then 0 else 1), .int (xs (nI i + 4).toNatClampNeg)]) (rest := []) ⟨hx, hb, hml, hown, hts⟩ hM1 (cwV 4 hts gL_law_X6_shelve rfl rc1 rs1 qlX6_shelve ⟨Nat.succ_le_succ f1, Nat.le_trans (Nat.add_le_add_left g1 _) (Nat.le_of_ble_eq_true rfl)⟩) hE hK hP hD hSt hA 6 rfl rfl hx0 rfl hl.1 rfl (Nat.le_of_ble_eq_true rfl) dL_law_1002 ⟨(by show cells + mc1 ≤ 601024; omega), (by show slots + ms1 ≤ 7293034; omega)⟩ (fun r1 σ1 w1 H1 locs1 hp1 hW1 hP1 hD1 hSt1 => ?_)
  obtain ⟨hC1, hS1, hq1, hq2⟩ := hp1
  have hzq1 := LW_q hW1
  refine lv_aload_n hx hb dL_law_1005 rfl (lv_at hl 2 rfl) ?_
  refine lv_aload_n hx hb dL_law_1006 rfl (lv_at hl 0 rfl) ?_
  refine lv_iload hx hb dL_law_1007 (lv_at hl 4 rfl) ?_
  refine lv_iconst (v := 1) hx hb dL_law_1009 (by decide) ?_
  refine lv_iadd hx hb dL_law_1010 ?_
  refine va_sld hx hb hX hbl hbA hSt1 hn1 dL_law_1011 ?_
  refine lv_aload_n hx hb dL_law_1012 rfl (lv_at hl 0 rfl) ?_
  refine lv_iload hx hb dL_law_1013 (lv_at hl 4 rfl) ?_
  refine lv_iconst (v := 2) hx hb dL_law_1015 (by decide) ?_
  refine lv_iadd hx hb dL_law_1016 ?_
  refine va_sld hx hb hX hbl hbA hSt1 hn2 dL_law_1017 ?_
  refine lv_aload_n hx hb dL_law_1018 rfl (lv_at hl 0 rfl) ?_
  refine lv_iload hx hb dL_law_1019 (lv_at hl 4 rfl) ?_
  refine lv_iconst (v := 3) hx hb dL_law_1021 (by decide) ?_
  refine lv_iadd hx hb dL_law_1022 ?_
  refine va_sld hx hb hX hbl hbA hSt1 hn3 dL_law_1023 ?_
  refine lv_bool hx hb dL_law_1024 dL_law_1027 dL_law_1028 dL_law_1031 ?_
  refine lv_aload_n hx hb dL_law_1032 rfl (lv_at hl 0 rfl) ?_
  refine lv_iload hx hb dL_law_1033 (lv_at hl 4 rfl) ?_
  refine lv_iconst (v := 4) hx hb dL_law_1035 (by decide) ?_
  refine lv_iadd hx hb dL_law_1036 ?_
  refine va_sld hx hb hX hbl hbA hSt1 hn4 dL_law_1037 ?_
  obtain ⟨rm2, f2, g2, rc2, rs2, hM2⟩ := ly_shelve (l := l) (ad := ad) (dC := dC) (dI := dI) (sz := H1.size) hS hW1 ((xs (nI i + 1).toNatClampNeg)) ((xs (nI i + 2).toNatClampNeg)) ((if (xs (nI i + 3).toNatClampNeg) = 0 then 0 else 1)) ((xs (nI i + 4).toNatClampNeg))
  obtain ⟨k2, fm, hm0⟩ := LW_m hW1
  refine LVi (As := [.int (xs (nI i + 1).toNatClampNeg), .int (xs (nI i + 2).toNatClampNeg), .int (if (xs (nI i + 3).toNatClampNeg) = 0 then 0 else 1), .int (xs (nI i + 4).toNatClampNeg)]) (rest := [.int r1]) ⟨hx, hb, hml, hown, hts⟩ hM2 (cwV 4 hts gL_law_X7_shelve rfl rc2 rs2 qlX7_shelve ⟨Nat.succ_le_succ f2, Nat.le_trans (Nat.add_le_add_left g2 _) (Nat.le_of_ble_eq_true rfl)⟩) hE hK hP1 hD1 hSt1 hA 7 rfl rfl hm0 rfl hl.1 rfl (Nat.le_of_ble_eq_true rfl) dL_law_1038 ⟨(by show cells + mc1 + 0 ≤ 601024; omega), (by show slots + ms1 + 0 ≤ 7293034; omega)⟩ (fun r2 ζ2 w2 H2 locs2 hC2 hW2 hP2 hD2 hSt2 => ?_)
  obtain ⟨Ia, Ha, Ja, rb⟩ := ζ2
  obtain ⟨e1, e2, e3, e4⟩ := C_shelve_un hS hC1 hC2
  replace e2 : σ1.1 = Ia := e2
  replace e3 : σ1.2.1 = Ha := e3
  replace e4 : σ1.2.2.2.1 = Ja := e4
  subst e2 e3 e4
  refine lv_icmp_eq (tgt := 1161) hx hb dL_law_1041 (by decide) (fun _ => ?_) (fun z => absurd e1 z)
  exact kk σ1 rb o w2 H2 locs2 ls _ _ ⟨hS1, hW2, hP2, hD2, hSt2, hl, by omega, by omega⟩
set_option maxHeartbeats 4000000 in
set_option maxRecDepth 100000 in
theorem lc_shelved {p : Program} {l : Launch} {e : Env} {s : State} {m : MethodId} {below : List Frame} {meth : Method} {c : Code} {b L : Nat} {xs : Nat → Int32} {ad : (Nat → Nat) × (Nat → Nat)} {dC : Nat → ClassId} {dI : Nat → Nat → Nat} {cy : Nat → ClassId} {a_x a_m a_o : Nat} {Q : State → Prop} {i : Nat} {I : ZI} {H : List ZL} {d : ZC} {J : Nat → Option ZI} {qc qt qf : Nat × Nat} {ra : Int32} {o : Nat → Int64} {w : va_W} {H0 : Heap} {locs : List Loc} {ls : Array Slot} {cells slots : Nat} (C : LCtx p s m c b L xs ad dC dI cy) (hi : i + 5 ≤ L) (hL : L ≤ 2560) (V : LInv s dC dI cy b a_x a_m a_o i i (I, H, d, J, qc, qt, qf) ra o w H0 locs ls cells slots)
    (kk : ∀ (σ' : ZS) (ra' : Int32) (o' : Nat → Int64) (w' : va_W) (H' : Heap) (locs' : List Loc) (ls' : Array Slot) (cells' slots' : Nat), LInv s dC dI cy b a_x a_m a_o i (i + 5) σ' ra' o' w' H' locs' ls' cells' slots' → W p l e room_1 s m #[Value.ref b] below meth c H' locs' cells' slots' Q (F0 m 1161 ls' [])) :
    W p l e room_1 s m #[Value.ref b] below meth c H0 locs cells slots Q (F0 m 1046 ls []) := by
  obtain ⟨hx, hb, hml, hown, hts, ht1, hX, hbl, hK, hE, hEx⟩ := C
  obtain ⟨hS, hW, hP, hD, hSt, hl, hc, hs⟩ := V
  have hzq := LW_q hW
  have hA : ∀ q : Nat, s.heap.size ≤ q → (fun q : Nat => s.heap.size ≤ q) q := fun _ h => h
  have hbA : ¬ (fun q : Nat => s.heap.size ≤ q) b := Nat.not_le.mpr hbl
  have hn1 : vp_in (nI i + 1) L := by rw [show (1 : Int32) = nI 1 from rfl, nI_add]; exact vp_in_nI (by omega) (by omega)
  have hn2 : vp_in (nI i + 2) L := by rw [show (2 : Int32) = nI 2 from rfl, nI_add]; exact vp_in_nI (by omega) (by omega)
  have hn3 : vp_in (nI i + 3) L := by rw [show (3 : Int32) = nI 3 from rfl, nI_add]; exact vp_in_nI (by omega) (by omega)
  have hn4 : vp_in (nI i + 4) L := by rw [show (4 : Int32) = nI 4 from rfl, nI_add]; exact vp_in_nI (by omega) (by omega)
  refine lv_aload_n hx hb dL_law_1046 rfl (lv_at hl 1 rfl) ?_
  refine lv_aload_n hx hb dL_law_1047 rfl (lv_at hl 0 rfl) ?_
  refine lv_iload hx hb dL_law_1048 (lv_at hl 4 rfl) ?_
  refine lv_iconst (v := 1) hx hb dL_law_1050 (by decide) ?_
  refine lv_iadd hx hb dL_law_1051 ?_
  refine va_sld hx hb hX hbl hbA hSt hn1 dL_law_1052 ?_
  refine lv_aload_n hx hb dL_law_1053 rfl (lv_at hl 0 rfl) ?_
  refine lv_iload hx hb dL_law_1054 (lv_at hl 4 rfl) ?_
  refine lv_iconst (v := 2) hx hb dL_law_1056 (by decide) ?_
  refine lv_iadd hx hb dL_law_1057 ?_
  refine va_sld hx hb hX hbl hbA hSt hn2 dL_law_1058 ?_
  refine lv_aload_n hx hb dL_law_1059 rfl (lv_at hl 0 rfl) ?_
  refine lv_iload hx hb dL_law_1060 (lv_at hl 4 rfl) ?_
  refine lv_iconst (v := 3) hx hb dL_law_1062 (by decide) ?_
  refine lv_iadd hx hb dL_law_1063 ?_
  refine va_sld hx hb hX hbl hbA hSt hn3 dL_law_1064 ?_
  refine lv_bool hx hb dL_law_1065 dL_law_1068 dL_law_1069 dL_law_1072 ?_
  obtain ⟨rm1, mc1, ms1, f1, g1, rc1, rs1, bc1, bs1, hM1⟩ := lx_shelved (l := l) (ad := ad) (dC := dC) (dI := dI) (sz := H0.size) hS hW ((xs (nI i + 1).toNatClampNeg)) ((xs (nI i + 2).toNatClampNeg)) ((if (xs (nI i + 3).toNatClampNeg) = 0 then 0 else 1))
  obtain ⟨fx, hx0⟩ := LW_x hW
  refine LVi (As := [.int (xs (nI i + 1).toNatClampNeg), .int (xs (nI i + 2).toNatClampNeg), .int (if (xs (nI i + 3).toNatClampNeg) = 0 then 0 else 1)]) (rest := []) ⟨hx, hb, hml, hown, hts⟩ hM1 (cwV 3 hts gL_law_X6_shelved rfl rc1 rs1 qlX6_shelved ⟨Nat.succ_le_succ f1, Nat.le_trans (Nat.add_le_add_left g1 _) (Nat.le_of_ble_eq_true rfl)⟩) hE hK hP hD hSt hA 6 rfl rfl hx0 rfl hl.1 rfl (Nat.le_of_ble_eq_true rfl) dL_law_1073 ⟨(by show cells + mc1 ≤ 601024; omega), (by show slots + ms1 ≤ 7293034; omega)⟩ (fun r1 σ1 w1 H1 locs1 hp1 hW1 hP1 hD1 hSt1 => ?_)
  obtain ⟨hC1, hS1, hq1, hq2⟩ := hp1
  have hzq1 := LW_q hW1
  refine lv_aload_n hx hb dL_law_1076 rfl (lv_at hl 2 rfl) ?_
  refine lv_aload_n hx hb dL_law_1077 rfl (lv_at hl 0 rfl) ?_
  refine lv_iload hx hb dL_law_1078 (lv_at hl 4 rfl) ?_
  refine lv_iconst (v := 1) hx hb dL_law_1080 (by decide) ?_
  refine lv_iadd hx hb dL_law_1081 ?_
  refine va_sld hx hb hX hbl hbA hSt1 hn1 dL_law_1082 ?_
  refine lv_aload_n hx hb dL_law_1083 rfl (lv_at hl 0 rfl) ?_
  refine lv_iload hx hb dL_law_1084 (lv_at hl 4 rfl) ?_
  refine lv_iconst (v := 2) hx hb dL_law_1086 (by decide) ?_
  refine lv_iadd hx hb dL_law_1087 ?_
  refine va_sld hx hb hX hbl hbA hSt1 hn2 dL_law_1088 ?_
  refine lv_aload_n hx hb dL_law_1089 rfl (lv_at hl 0 rfl) ?_
  refine lv_iload hx hb dL_law_1090 (lv_at hl 4 rfl) ?_
  refine lv_iconst (v := 3) hx hb dL_law_1092 (by decide) ?_
  refine lv_iadd hx hb dL_law_1093 ?_
  refine va_sld hx hb hX hbl hbA hSt1 hn3 dL_law_1094 ?_
  refine lv_bool hx hb dL_law_1095 dL_law_1098 dL_law_1099 dL_law_1102 ?_
  obtain ⟨rm2, f2, g2, rc2, rs2, hM2⟩ := ly_shelved (l := l) (ad := ad) (dC := dC) (dI := dI) (sz := H1.size) hS hW1 ((xs (nI i + 1).toNatClampNeg)) ((xs (nI i + 2).toNatClampNeg)) ((if (xs (nI i + 3).toNatClampNeg) = 0 then 0 else 1))
  obtain ⟨k2, fm, hm0⟩ := LW_m hW1
  refine LVi (As := [.int (xs (nI i + 1).toNatClampNeg), .int (xs (nI i + 2).toNatClampNeg), .int (if (xs (nI i + 3).toNatClampNeg) = 0 then 0 else 1)]) (rest := [.int r1]) ⟨hx, hb, hml, hown, hts⟩ hM2 (cwV 3 hts gL_law_X7_shelved rfl rc2 rs2 qlX7_shelved ⟨Nat.succ_le_succ f2, Nat.le_trans (Nat.add_le_add_left g2 _) (Nat.le_of_ble_eq_true rfl)⟩) hE hK hP1 hD1 hSt1 hA 7 rfl rfl hm0 rfl hl.1 rfl (Nat.le_of_ble_eq_true rfl) dL_law_1103 ⟨(by show cells + mc1 + 0 ≤ 601024; omega), (by show slots + ms1 + 0 ≤ 7293034; omega)⟩ (fun r2 ζ2 w2 H2 locs2 hC2 hW2 hP2 hD2 hSt2 => ?_)
  obtain ⟨Ia, Ha, Ja, rb⟩ := ζ2
  obtain ⟨e1, e2, e3, e4⟩ := C_shelved_un hS hC1 hC2
  replace e2 : σ1.1 = Ia := e2
  replace e3 : σ1.2.1 = Ha := e3
  replace e4 : σ1.2.2.2.1 = Ja := e4
  subst e2 e3 e4
  refine lv_icmp_eq (tgt := 1161) hx hb dL_law_1106 (by decide) (fun _ => ?_) (fun z => absurd e1 z)
  exact kk σ1 rb o w2 H2 locs2 ls _ _ ⟨hS1, hW2, hP2, hD2, hSt2, hl, by omega, by omega⟩
set_option maxHeartbeats 4000000 in
set_option maxRecDepth 100000 in
theorem lc_image {p : Program} {l : Launch} {e : Env} {s : State} {m : MethodId} {below : List Frame} {meth : Method} {c : Code} {b L : Nat} {xs : Nat → Int32} {ad : (Nat → Nat) × (Nat → Nat)} {dC : Nat → ClassId} {dI : Nat → Nat → Nat} {cy : Nat → ClassId} {a_x a_m a_o : Nat} {Q : State → Prop} {i : Nat} {I : ZI} {H : List ZL} {d : ZC} {J : Nat → Option ZI} {qc qt qf : Nat × Nat} {ra : Int32} {o : Nat → Int64} {w : va_W} {H0 : Heap} {locs : List Loc} {ls : Array Slot} {cells slots : Nat} (C : LCtx p s m c b L xs ad dC dI cy) (hi : i + 5 ≤ L) (hL : L ≤ 2560) (V : LInv s dC dI cy b a_x a_m a_o i i (I, H, d, J, qc, qt, qf) ra o w H0 locs ls cells slots)
    (kk : ∀ (σ' : ZS) (ra' : Int32) (o' : Nat → Int64) (w' : va_W) (H' : Heap) (locs' : List Loc) (ls' : Array Slot) (cells' slots' : Nat), LInv s dC dI cy b a_x a_m a_o i (i + 5) σ' ra' o' w' H' locs' ls' cells' slots' → W p l e room_1 s m #[Value.ref b] below meth c H' locs' cells' slots' Q (F0 m 1161 ls' [])) :
    W p l e room_1 s m #[Value.ref b] below meth c H0 locs cells slots Q (F0 m 1111 ls []) := by
  obtain ⟨hx, hb, hml, hown, hts, ht1, hX, hbl, hK, hE, hEx⟩ := C
  obtain ⟨hS, hW, hP, hD, hSt, hl, hc, hs⟩ := V
  have hzq := LW_q hW
  have hA : ∀ q : Nat, s.heap.size ≤ q → (fun q : Nat => s.heap.size ≤ q) q := fun _ h => h
  have hbA : ¬ (fun q : Nat => s.heap.size ≤ q) b := Nat.not_le.mpr hbl
  have hn1 : vp_in (nI i + 1) L := by rw [show (1 : Int32) = nI 1 from rfl, nI_add]; exact vp_in_nI (by omega) (by omega)
  have hn2 : vp_in (nI i + 2) L := by rw [show (2 : Int32) = nI 2 from rfl, nI_add]; exact vp_in_nI (by omega) (by omega)
  have hn3 : vp_in (nI i + 3) L := by rw [show (3 : Int32) = nI 3 from rfl, nI_add]; exact vp_in_nI (by omega) (by omega)
  have hn4 : vp_in (nI i + 4) L := by rw [show (4 : Int32) = nI 4 from rfl, nI_add]; exact vp_in_nI (by omega) (by omega)
  refine lv_aload_n hx hb dL_law_1111 rfl (lv_at hl 1 rfl) ?_
  refine lv_aload_n hx hb dL_law_1112 rfl (lv_at hl 0 rfl) ?_
  refine lv_iload hx hb dL_law_1113 (lv_at hl 4 rfl) ?_
  refine lv_iconst (v := 1) hx hb dL_law_1115 (by decide) ?_
  refine lv_iadd hx hb dL_law_1116 ?_
  refine va_sld hx hb hX hbl hbA hSt hn1 dL_law_1117 ?_
  obtain ⟨rm1, mc1, ms1, f1, g1, rc1, rs1, bc1, bs1, hM1⟩ := lx_image (l := l) (ad := ad) (dC := dC) (dI := dI) (sz := H0.size) hS hW ((xs (nI i + 1).toNatClampNeg))
  obtain ⟨fx, hx0⟩ := LW_x hW
  refine LVi (As := [.int (xs (nI i + 1).toNatClampNeg)]) (rest := []) ⟨hx, hb, hml, hown, hts⟩ hM1 (cwV 1 hts gL_law_X6_image rfl rc1 rs1 qlX6_image ⟨Nat.succ_le_succ f1, Nat.le_trans (Nat.add_le_add_left g1 _) (Nat.le_of_ble_eq_true rfl)⟩) hE hK hP hD hSt hA 6 rfl rfl hx0 rfl hl.1 rfl (Nat.le_of_ble_eq_true rfl) dL_law_1118 ⟨(by show cells + mc1 ≤ 601024; omega), (by show slots + ms1 ≤ 7293034; omega)⟩ (fun r1 σ1 w1 H1 locs1 hp1 hW1 hP1 hD1 hSt1 => ?_)
  obtain ⟨hC1, hS1, hq1, hq2⟩ := hp1
  have hzq1 := LW_q hW1
  refine lv_aload_n hx hb dL_law_1121 rfl (lv_at hl 2 rfl) ?_
  refine lv_aload_n hx hb dL_law_1122 rfl (lv_at hl 0 rfl) ?_
  refine lv_iload hx hb dL_law_1123 (lv_at hl 4 rfl) ?_
  refine lv_iconst (v := 1) hx hb dL_law_1125 (by decide) ?_
  refine lv_iadd hx hb dL_law_1126 ?_
  refine va_sld hx hb hX hbl hbA hSt1 hn1 dL_law_1127 ?_
  obtain ⟨rm2, f2, g2, rc2, rs2, hM2⟩ := ly_image (l := l) (ad := ad) (dC := dC) (dI := dI) (sz := H1.size) hS hW1 ((xs (nI i + 1).toNatClampNeg))
  obtain ⟨k2, fm, hm0⟩ := LW_m hW1
  refine LVi (As := [.int (xs (nI i + 1).toNatClampNeg)]) (rest := [.int r1]) ⟨hx, hb, hml, hown, hts⟩ hM2 (cwV 1 hts gL_law_X7_image rfl rc2 rs2 qlX7_image ⟨Nat.succ_le_succ f2, Nat.le_trans (Nat.add_le_add_left g2 _) (Nat.le_of_ble_eq_true rfl)⟩) hE hK hP1 hD1 hSt1 hA 7 rfl rfl hm0 rfl hl.1 rfl (Nat.le_of_ble_eq_true rfl) dL_law_1128 ⟨(by show cells + mc1 + 0 ≤ 601024; omega), (by show slots + ms1 + 0 ≤ 7293034; omega)⟩ (fun r2 ζ2 w2 H2 locs2 hC2 hW2 hP2 hD2 hSt2 => ?_)
  obtain ⟨Ia, Ha, Ja, rb⟩ := ζ2
  obtain ⟨e1, e2, e3, e4⟩ := C_image_un hS hC1 hC2
  replace e2 : σ1.1 = Ia := e2
  replace e3 : σ1.2.1 = Ha := e3
  replace e4 : σ1.2.2.2.1 = Ja := e4
  subst e2 e3 e4
  refine lv_icmp_eq (tgt := 1161) hx hb dL_law_1131 (by decide) (fun _ => ?_) (fun z => absurd e1 z)
  exact kk σ1 rb o w2 H2 locs2 ls _ _ ⟨hS1, hW2, hP2, hD2, hSt2, hl, by omega, by omega⟩
set_option maxHeartbeats 4000000 in
set_option maxRecDepth 100000 in
theorem lc_again {p : Program} {l : Launch} {e : Env} {s : State} {m : MethodId} {below : List Frame} {meth : Method} {c : Code} {b L : Nat} {xs : Nat → Int32} {ad : (Nat → Nat) × (Nat → Nat)} {dC : Nat → ClassId} {dI : Nat → Nat → Nat} {cy : Nat → ClassId} {a_x a_m a_o : Nat} {Q : State → Prop} {i : Nat} {I : ZI} {H : List ZL} {d : ZC} {J : Nat → Option ZI} {qc qt qf : Nat × Nat} {ra : Int32} {o : Nat → Int64} {w : va_W} {H0 : Heap} {locs : List Loc} {ls : Array Slot} {cells slots : Nat} (C : LCtx p s m c b L xs ad dC dI cy) (hi : i + 5 ≤ L) (hL : L ≤ 2560) (V : LInv s dC dI cy b a_x a_m a_o i i (I, H, d, J, qc, qt, qf) ra o w H0 locs ls cells slots)
    (kk : ∀ (σ' : ZS) (ra' : Int32) (o' : Nat → Int64) (w' : va_W) (H' : Heap) (locs' : List Loc) (ls' : Array Slot) (cells' slots' : Nat), LInv s dC dI cy b a_x a_m a_o i (i + 5) σ' ra' o' w' H' locs' ls' cells' slots' → W p l e room_1 s m #[Value.ref b] below meth c H' locs' cells' slots' Q (F0 m 1161 ls' [])) :
    W p l e room_1 s m #[Value.ref b] below meth c H0 locs cells slots Q (F0 m 1136 ls []) := by
  obtain ⟨hx, hb, hml, hown, hts, ht1, hX, hbl, hK, hE, hEx⟩ := C
  obtain ⟨hS, hW, hP, hD, hSt, hl, hc, hs⟩ := V
  have hzq := LW_q hW
  have hA : ∀ q : Nat, s.heap.size ≤ q → (fun q : Nat => s.heap.size ≤ q) q := fun _ h => h
  have hbA : ¬ (fun q : Nat => s.heap.size ≤ q) b := Nat.not_le.mpr hbl
  have hn1 : vp_in (nI i + 1) L := by rw [show (1 : Int32) = nI 1 from rfl, nI_add]; exact vp_in_nI (by omega) (by omega)
  have hn2 : vp_in (nI i + 2) L := by rw [show (2 : Int32) = nI 2 from rfl, nI_add]; exact vp_in_nI (by omega) (by omega)
  have hn3 : vp_in (nI i + 3) L := by rw [show (3 : Int32) = nI 3 from rfl, nI_add]; exact vp_in_nI (by omega) (by omega)
  have hn4 : vp_in (nI i + 4) L := by rw [show (4 : Int32) = nI 4 from rfl, nI_add]; exact vp_in_nI (by omega) (by omega)
  refine lv_aload_n hx hb dL_law_1136 rfl (lv_at hl 1 rfl) ?_
  refine lv_aload_n hx hb dL_law_1137 rfl (lv_at hl 0 rfl) ?_
  refine lv_iload hx hb dL_law_1138 (lv_at hl 4 rfl) ?_
  refine lv_iconst (v := 1) hx hb dL_law_1140 (by decide) ?_
  refine lv_iadd hx hb dL_law_1141 ?_
  refine va_sld hx hb hX hbl hbA hSt hn1 dL_law_1142 ?_
  obtain ⟨rm1, mc1, ms1, f1, g1, rc1, rs1, bc1, bs1, hM1⟩ := lx_again (l := l) (ad := ad) (dC := dC) (dI := dI) (sz := H0.size) hS hW ((xs (nI i + 1).toNatClampNeg))
  obtain ⟨fx, hx0⟩ := LW_x hW
  refine LVi (As := [.int (xs (nI i + 1).toNatClampNeg)]) (rest := []) ⟨hx, hb, hml, hown, hts⟩ hM1 (cwV 1 hts gL_law_X6_again rfl rc1 rs1 qlX6_again ⟨Nat.succ_le_succ f1, Nat.le_trans (Nat.add_le_add_left g1 _) (Nat.le_of_ble_eq_true rfl)⟩) hE hK hP hD hSt hA 6 rfl rfl hx0 rfl hl.1 rfl (Nat.le_of_ble_eq_true rfl) dL_law_1143 ⟨(by show cells + mc1 ≤ 601024; omega), (by show slots + ms1 ≤ 7293034; omega)⟩ (fun r1 σ1 w1 H1 locs1 hp1 hW1 hP1 hD1 hSt1 => ?_)
  obtain ⟨hC1, hS1, hq1, hq2⟩ := hp1
  have hzq1 := LW_q hW1
  refine lv_aload_n hx hb dL_law_1146 rfl (lv_at hl 2 rfl) ?_
  refine lv_aload_n hx hb dL_law_1147 rfl (lv_at hl 0 rfl) ?_
  refine lv_iload hx hb dL_law_1148 (lv_at hl 4 rfl) ?_
  refine lv_iconst (v := 1) hx hb dL_law_1150 (by decide) ?_
  refine lv_iadd hx hb dL_law_1151 ?_
  refine va_sld hx hb hX hbl hbA hSt1 hn1 dL_law_1152 ?_
  obtain ⟨rm2, f2, g2, rc2, rs2, hM2⟩ := ly_again (l := l) (ad := ad) (dC := dC) (dI := dI) (sz := H1.size) hS hW1 ((xs (nI i + 1).toNatClampNeg))
  obtain ⟨k2, fm, hm0⟩ := LW_m hW1
  refine LVi (As := [.int (xs (nI i + 1).toNatClampNeg)]) (rest := [.int r1]) ⟨hx, hb, hml, hown, hts⟩ hM2 (cwV 1 hts gL_law_X7_again rfl rc2 rs2 qlX7_again ⟨Nat.succ_le_succ f2, Nat.le_trans (Nat.add_le_add_left g2 _) (Nat.le_of_ble_eq_true rfl)⟩) hE hK hP1 hD1 hSt1 hA 7 rfl rfl hm0 rfl hl.1 rfl (Nat.le_of_ble_eq_true rfl) dL_law_1153 ⟨(by show cells + mc1 + 0 ≤ 601024; omega), (by show slots + ms1 + 0 ≤ 7293034; omega)⟩ (fun r2 ζ2 w2 H2 locs2 hC2 hW2 hP2 hD2 hSt2 => ?_)
  obtain ⟨Ia, Ha, Ja, rb⟩ := ζ2
  obtain ⟨e1, e2, e3, e4⟩ := C_again_un hS hC1 hC2
  replace e2 : σ1.1 = Ia := e2
  replace e3 : σ1.2.1 = Ha := e3
  replace e4 : σ1.2.2.2.1 = Ja := e4
  subst e2 e3 e4
  refine lv_icmp_eq (tgt := 1161) hx hb dL_law_1156 (by decide) (fun _ => ?_) (fun z => absurd e1 z)
  exact kk σ1 rb o w2 H2 locs2 ls _ _ ⟨hS1, hW2, hP2, hD2, hSt2, hl, by omega, by omega⟩
