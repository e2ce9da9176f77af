set_option maxHeartbeats 4000000 in
set_option maxRecDepth 100000 in
theorem ly_best {l : Launch} {ad : (Nat → Nat) × (Nat → Nat)} {dC : Nat → ClassId} {dI : Nat → Nat → Nat} {cy : Nat → ClassId} {a_x a_m a_o : Nat} {o : Nat → Int64} {w : va_W} {sz : Nat} {I : ZI} {H : List ZL} {d : ZC} {J : Nat → Option ZI} {qc qt qf : Nat × Nat} {σ : ZS} {ra : Int32} (hS : z_S (I, H, d, J, qc, qt, qf)) (hW : LW cy a_x a_m a_o σ (I, H, J, ra) o w) : LYl l yX7_best wsX7_best ad dC dI cy a_x a_m a_o [] σ o w sz (fun r I' H' J' _ => C_best I H d J r I' H' J') := by
  obtain ⟨wx, wm, rfl, hx, hm⟩ := hW
  obtain ⟨A, fi, fl, fa, fb, rfl, hR, -⟩ := hm
  have hM := lift_ml (a_x := a_x) (a_o := a_o) (σ := σ) (o := o) (bm_best l ad dC dI cy a_m (A 0) (A 1) (A 2) (A 3) (A 4) (A 5) (A 6) (A 7) (A 8) (A 9) (A 10) (A 11) (A 12) (A 13) (A 14) sz (fi 0) (fi 1) (fi 2) (fi 3) (fi 4) (fi 5) (fl 0) (fl 1) (fi 6) (fi 7) (fi 8) (fl 2) (fl 3) (fi 9) (fl 4) (fi 10) (fl 5) (fl 6) (fi 11) (fi 12) (fi 13) (fi 14) (fl 7) (fl 8) (fl 9) (fi 15) (fa 0) (fa 1) (fa 2) (fa 3) (fa 4) (fa 5) (fb 0) (fb 1) (fb 2) (fb 3) (fb 4) (fb 5) (fb 6) (fb 7) (fa 6)  hS hR) hx
  refine ⟨_, Nat.le_of_ble_eq_true rfl, Nat.le_of_ble_eq_true rfl, rfl, rfl, xMl_imp hM (fun r ζ' h => ?_)⟩
  obtain ⟨I', H', J', ra', rfl, hv'⟩ := h
  exact ⟨hv'.1, hv'.2.1, hv'.2.2.1, hv'.2.2.2.1⟩
set_option maxHeartbeats 4000000 in
set_option maxRecDepth 100000 in
theorem ly_share {l : Launch} {ad : (Nat → Nat) × (Nat → Nat)} {dC : Nat → ClassId} {dI : Nat → Nat → Nat} {cy : Nat → ClassId} {a_x a_m a_o : Nat} {o : Nat → Int64} {w : va_W} {sz : Nat} {I : ZI} {H : List ZL} {d : ZC} {J : Nat → Option ZI} {qc qt qf : Nat × Nat} {σ : ZS} {ra : Int32} (hS : z_S (I, H, d, J, qc, qt, qf)) (hW : LW cy a_x a_m a_o σ (I, H, J, ra) o w) (v1 : Int32) : LYi l yX7_share wsX7_share ad dC dI cy a_x a_m a_o [.int v1] σ o w sz (fun r I' H' J' _ => C_share I H d J v1 r I' H' J') := by
  obtain ⟨wx, wm, rfl, hx, hm⟩ := hW
  obtain ⟨A, fi, fl, fa, fb, rfl, hR, -⟩ := hm
  have hM := lift_mi (a_x := a_x) (a_o := a_o) (σ := σ) (o := o) (bm_share l ad dC dI cy a_m (A 0) (A 1) (A 2) (A 3) (A 4) (A 5) (A 6) (A 7) (A 8) (A 9) (A 10) (A 11) (A 12) (A 13) (A 14) sz (fi 0) (fi 1) (fi 2) (fi 3) (fi 4) (fi 5) (fl 0) (fl 1) (fi 6) (fi 7) (fi 8) (fl 2) (fl 3) (fi 9) (fl 4) (fi 10) (fl 5) (fl 6) (fi 11) (fi 12) (fi 13) (fi 14) (fl 7) (fl 8) (fl 9) (fi 15) (fa 0) (fa 1) (fa 2) (fa 3) (fa 4) (fa 5) (fb 0) (fb 1) (fb 2) (fb 3) (fb 4) (fb 5) (fb 6) (fb 7) (fa 6) v1 hS hR) hx
  refine ⟨_, Nat.le_of_ble_eq_true rfl, Nat.le_of_ble_eq_true rfl, rfl, rfl, xMi_imp hM (fun r ζ' h => ?_)⟩
  obtain ⟨I', H', J', ra', rfl, hv'⟩ := h
  exact ⟨hv'.1, hv'.2.1, hv'.2.2.1, hv'.2.2.2.1⟩
set_option maxHeartbeats 4000000 in
set_option maxRecDepth 100000 in
theorem ly_linear {l : Launch} {ad : (Nat → Nat) × (Nat → Nat)} {dC : Nat → ClassId} {dI : Nat → Nat → Nat} {cy : Nat → ClassId} {a_x a_m a_o : Nat} {o : Nat → Int64} {w : va_W} {sz : Nat} {I : ZI} {H : List ZL} {d : ZC} {J : Nat → Option ZI} {qc qt qf : Nat × Nat} {σ : ZS} {ra : Int32} (hS : z_S (I, H, d, J, qc, qt, qf)) (hW : LW cy a_x a_m a_o σ (I, H, J, ra) o w) : LYl l yX7_linear wsX7_linear ad dC dI cy a_x a_m a_o [] σ o w sz (fun r I' H' J' _ => C_linear I H d J r I' H' J') := by
  obtain ⟨wx, wm, rfl, hx, hm⟩ := hW
  obtain ⟨A, fi, fl, fa, fb, rfl, hR, -⟩ := hm
  have hM := lift_ml (a_x := a_x) (a_o := a_o) (σ := σ) (o := o) (bm_linear l ad dC dI cy a_m (A 0) (A 1) (A 2) (A 3) (A 4) (A 5) (A 6) (A 7) (A 8) (A 9) (A 10) (A 11) (A 12) (A 13) (A 14) sz (fi 0) (fi 1) (fi 2) (fi 3) (fi 4) (fi 5) (fl 0) (fl 1) (fi 6) (fi 7) (fi 8) (fl 2) (fl 3) (fi 9) (fl 4) (fi 10) (fl 5) (fl 6) (fi 11) (fi 12) (fi 13) (fi 14) (fl 7) (fl 8) (fl 9) (fi 15) (fa 0) (fa 1) (fa 2) (fa 3) (fa 4) (fa 5) (fb 0) (fb 1) (fb 2) (fb 3) (fb 4) (fb 5) (fb 6) (fb 7) (fa 6)  hS hR) hx
  refine ⟨_, Nat.le_of_ble_eq_true rfl, Nat.le_of_ble_eq_true rfl, rfl, rfl, xMl_imp hM (fun r ζ' h => ?_)⟩
  obtain ⟨I', H', J', ra', rfl, hv'⟩ := h
  exact ⟨hv'.1, hv'.2.1, hv'.2.2.1, hv'.2.2.2.1⟩
set_option maxHeartbeats 4000000 in
set_option maxRecDepth 100000 in
theorem ly_part {l : Launch} {ad : (Nat → Nat) × (Nat → Nat)} {dC : Nat → ClassId} {dI : Nat → Nat → Nat} {cy : Nat → ClassId} {a_x a_m a_o : Nat} {o : Nat → Int64} {w : va_W} {sz : Nat} {I : ZI} {H : List ZL} {d : ZC} {J : Nat → Option ZI} {qc qt qf : Nat × Nat} {σ : ZS} {ra : Int32} (hS : z_S (I, H, d, J, qc, qt, qf)) (hW : LW cy a_x a_m a_o σ (I, H, J, ra) o w) (v1 : Int32) (v2 : Int32) : LYi l yX7_part wsX7_part ad dC dI cy a_x a_m a_o [.int v1, .int v2] σ o w sz (fun r I' H' J' _ => C_part I H d J v1 v2 r I' H' J') := by
  obtain ⟨wx, wm, rfl, hx, hm⟩ := hW
  obtain ⟨A, fi, fl, fa, fb, rfl, hR, -⟩ := hm
  have hM := lift_mi (a_x := a_x) (a_o := a_o) (σ := σ) (o := o) (bm_part l ad dC dI cy a_m (A 0) (A 1) (A 2) (A 3) (A 4) (A 5) (A 6) (A 7) (A 8) (A 9) (A 10) (A 11) (A 12) (A 13) (A 14) sz (fi 0) (fi 1) (fi 2) (fi 3) (fi 4) (fi 5) (fl 0) (fl 1) (fi 6) (fi 7) (fi 8) (fl 2) (fl 3) (fi 9) (fl 4) (fi 10) (fl 5) (fl 6) (fi 11) (fi 12) (fi 13) (fi 14) (fl 7) (fl 8) (fl 9) (fi 15) (fa 0) (fa 1) (fa 2) (fa 3) (fa 4) (fa 5) (fb 0) (fb 1) (fb 2) (fb 3) (fb 4) (fb 5) (fb 6) (fb 7) (fa 6) v1 v2 hS hR) hx
  refine ⟨_, Nat.le_of_ble_eq_true rfl, Nat.le_of_ble_eq_true rfl, rfl, rfl, xMi_imp hM (fun r ζ' h => ?_)⟩
  obtain ⟨I', H', J', ra', rfl, hv'⟩ := h
  exact ⟨hv'.1, hv'.2.1, hv'.2.2.1, hv'.2.2.2.1⟩
set_option maxHeartbeats 4000000 in
set_option maxRecDepth 100000 in
theorem ly_greedy {l : Launch} {ad : (Nat → Nat) × (Nat → Nat)} {dC : Nat → ClassId} {dI : Nat → Nat → Nat} {cy : Nat → ClassId} {a_x a_m a_o : Nat} {o : Nat → Int64} {w : va_W} {sz : Nat} {I : ZI} {H : List ZL} {d : ZC} {J : Nat → Option ZI} {qc qt qf : Nat × Nat} {σ : ZS} {ra : Int32} (hS : z_S (I, H, d, J, qc, qt, qf)) (hW : LW cy a_x a_m a_o σ (I, H, J, ra) o w) (v1 : Int32) : LYl l yX7_greedy wsX7_greedy ad dC dI cy a_x a_m a_o [.int v1] σ o w sz (fun r I' H' J' _ => C_greedy I H d J v1 r I' H' J') := by
  obtain ⟨wx, wm, rfl, hx, hm⟩ := hW
  obtain ⟨A, fi, fl, fa, fb, rfl, hR, -⟩ := hm
  have hM := lift_ml (a_x := a_x) (a_o := a_o) (σ := σ) (o := o) (bm_greedy l ad dC dI cy a_m (A 0) (A 1) (A 2) (A 3) (A 4) (A 5) (A 6) (A 7) (A 8) (A 9) (A 10) (A 11) (A 12) (A 13) (A 14) sz (fi 0) (fi 1) (fi 2) (fi 3) (fi 4) (fi 5) (fl 0) (fl 1) (fi 6) (fi 7) (fi 8) (fl 2) (fl 3) (fi 9) (fl 4) (fi 10) (fl 5) (fl 6) (fi 11) (fi 12) (fi 13) (fi 14) (fl 7) (fl 8) (fl 9) (fi 15) (fa 0) (fa 1) (fa 2) (fa 3) (fa 4) (fa 5) (fb 0) (fb 1) (fb 2) (fb 3) (fb 4) (fb 5) (fb 6) (fb 7) (fa 6) v1 hS hR) hx
  refine ⟨_, Nat.le_of_ble_eq_true rfl, Nat.le_of_ble_eq_true rfl, rfl, rfl, xMl_imp hM (fun r ζ' h => ?_)⟩
  obtain ⟨I', H', J', ra', rfl, hv'⟩ := h
  exact ⟨hv'.1, hv'.2.1, hv'.2.2.1, hv'.2.2.2.1⟩
set_option maxHeartbeats 4000000 in
set_option maxRecDepth 100000 in
theorem ly_swap {l : Launch} {ad : (Nat → Nat) × (Nat → Nat)} {dC : Nat → ClassId} {dI : Nat → Nat → Nat} {cy : Nat → ClassId} {a_x a_m a_o : Nat} {o : Nat → Int64} {w : va_W} {sz : Nat} {I : ZI} {H : List ZL} {d : ZC} {J : Nat → Option ZI} {qc qt qf : Nat × Nat} {σ : ZS} {ra : Int32} (hS : z_S (I, H, d, J, qc, qt, qf)) (hW : LW cy a_x a_m a_o σ (I, H, J, ra) o w) (v1 : Int32) : LYi l yX7_swap wsX7_swap ad dC dI cy a_x a_m a_o [.int v1] σ o w sz (fun r I' H' J' _ => C_swap I H d J v1 r I' H' J') := by
  obtain ⟨wx, wm, rfl, hx, hm⟩ := hW
  obtain ⟨A, fi, fl, fa, fb, rfl, hR, -⟩ := hm
  have hM := lift_mi (a_x := a_x) (a_o := a_o) (σ := σ) (o := o) (bm_swap l ad dC dI cy a_m (A 0) (A 1) (A 2) (A 3) (A 4) (A 5) (A 6) (A 7) (A 8) (A 9) (A 10) (A 11) (A 12) (A 13) (A 14) sz (fi 0) (fi 1) (fi 2) (fi 3) (fi 4) (fi 5) (fl 0) (fl 1) (fi 6) (fi 7) (fi 8) (fl 2) (fl 3) (fi 9) (fl 4) (fi 10) (fl 5) (fl 6) (fi 11) (fi 12) (fi 13) (fi 14) (fl 7) (fl 8) (fl 9) (fi 15) (fa 0) (fa 1) (fa 2) (fa 3) (fa 4) (fa 5) (fb 0) (fb 1) (fb 2) (fb 3) (fb 4) (fb 5) (fb 6) (fb 7) (fa 6) v1 hS hR) hx
  refine ⟨_, Nat.le_of_ble_eq_true rfl, Nat.le_of_ble_eq_true rfl, rfl, rfl, xMi_imp hM (fun r ζ' h => ?_)⟩
  obtain ⟨I', H', J', ra', rfl, hv'⟩ := h
  exact ⟨hv'.1, hv'.2.1, hv'.2.2.1, hv'.2.2.2.1⟩
set_option maxHeartbeats 4000000 in
set_option maxRecDepth 100000 in
theorem ly_front {l : Launch} {ad : (Nat → Nat) × (Nat → Nat)} {dC : Nat → ClassId} {dI : Nat → Nat → Nat} {cy : Nat → ClassId} {a_x a_m a_o : Nat} {o : Nat → Int64} {w : va_W} {sz : Nat} {I : ZI} {H : List ZL} {d : ZC} {J : Nat → Option ZI} {qc qt qf : Nat × Nat} {σ : ZS} {ra : Int32} (hS : z_S (I, H, d, J, qc, qt, qf)) (hW : LW cy a_x a_m a_o σ (I, H, J, ra) o w) (v1 : Int32) (v2 : Int32) : LYl l yX7_front wsX7_front ad dC dI cy a_x a_m a_o [.int v1, .int v2] σ o w sz (fun r I' H' J' _ => C_front I H d J v1 v2 r I' H' J') := by
  obtain ⟨wx, wm, rfl, hx, hm⟩ := hW
  obtain ⟨A, fi, fl, fa, fb, rfl, hR, -⟩ := hm
  have hM := lift_ml (a_x := a_x) (a_o := a_o) (σ := σ) (o := o) (bm_front l ad dC dI cy a_m (A 0) (A 1) (A 2) (A 3) (A 4) (A 5) (A 6) (A 7) (A 8) (A 9) (A 10) (A 11) (A 12) (A 13) (A 14) sz (fi 0) (fi 1) (fi 2) (fi 3) (fi 4) (fi 5) (fl 0) (fl 1) (fi 6) (fi 7) (fi 8) (fl 2) (fl 3) (fi 9) (fl 4) (fi 10) (fl 5) (fl 6) (fi 11) (fi 12) (fi 13) (fi 14) (fl 7) (fl 8) (fl 9) (fi 15) (fa 0) (fa 1) (fa 2) (fa 3) (fa 4) (fa 5) (fb 0) (fb 1) (fb 2) (fb 3) (fb 4) (fb 5) (fb 6) (fb 7) (fa 6) v1 v2 hS hR) hx
  refine ⟨_, Nat.le_of_ble_eq_true rfl, Nat.le_of_ble_eq_true rfl, rfl, rfl, xMl_imp hM (fun r ζ' h => ?_)⟩
  obtain ⟨I', H', J', ra', rfl, hv'⟩ := h
  exact ⟨hv'.1, hv'.2.1, hv'.2.2.1, hv'.2.2.2.1⟩
set_option maxHeartbeats 4000000 in
set_option maxRecDepth 100000 in
theorem ly_other {l : Launch} {ad : (Nat → Nat) × (Nat → Nat)} {dC : Nat → ClassId} {dI : Nat → Nat → Nat} {cy : Nat → ClassId} {a_x a_m a_o : Nat} {o : Nat → Int64} {w : va_W} {sz : Nat} {I : ZI} {H : List ZL} {d : ZC} {J : Nat → Option ZI} {qc qt qf : Nat × Nat} {σ : ZS} {ra : Int32} (hS : z_S (I, H, d, J, qc, qt, qf)) (hW : LW cy a_x a_m a_o σ (I, H, J, ra) o w) (v1 : Int32) : LYi l yX7_other wsX7_other ad dC dI cy a_x a_m a_o [.int v1] σ o w sz (fun r I' H' J' _ => C_other I H d J v1 r I' H' J') := by
  obtain ⟨wx, wm, rfl, hx, hm⟩ := hW
  obtain ⟨A, fi, fl, fa, fb, rfl, hR, -⟩ := hm
  have hM := lift_mi (a_x := a_x) (a_o := a_o) (σ := σ) (o := o) (bm_other l ad dC dI cy a_m (A 0) (A 1) (A 2) (A 3) (A 4) (A 5) (A 6) (A 7) (A 8) (A 9) (A 10) (A 11) (A 12) (A 13) (A 14) sz (fi 0) (fi 1) (fi 2) (fi 3) (fi 4) (fi 5) (fl 0) (fl 1) (fi 6) (fi 7) (fi 8) (fl 2) (fl 3) (fi 9) (fl 4) (fi 10) (fl 5) (fl 6) (fi 11) (fi 12) (fi 13) (fi 14) (fl 7) (fl 8) (fl 9) (fi 15) (fa 0) (fa 1) (fa 2) (fa 3) (fa 4) (fa 5) (fb 0) (fb 1) (fb 2) (fb 3) (fb 4) (fb 5) (fb 6) (fb 7) (fa 6) v1 hS hR) hx
  refine ⟨_, Nat.le_of_ble_eq_true rfl, Nat.le_of_ble_eq_true rfl, rfl, rfl, xMi_imp hM (fun r ζ' h => ?_)⟩
  obtain ⟨I', H', J', ra', rfl, hv'⟩ := h
  exact ⟨hv'.1, hv'.2.1, hv'.2.2.1, hv'.2.2.2.1⟩
