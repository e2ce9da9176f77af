set_option maxHeartbeats 4000000 in
set_option maxRecDepth 100000 in
theorem ly_again {l : Launch} {ad : (Nat → Nat) × (Nat → Nat)} {dC : Nat → ClassId} {dI : Nat → Nat → Nat} {cy : Nat → ClassId} {a_x a_m a_o : Nat} {o : Nat → Int64} {w : va_W} {sz : Nat} {I : ZI} {H : List ZL} {d : ZC} {J : Nat → Option ZI} {qc qt qf : Nat × Nat} {σ : ZS} {ra : Int32} (hS : z_S (I, H, d, J, qc, qt, qf)) (hW : LW cy a_x a_m a_o σ (I, H, J, ra) o w) (v1 : Int32) : LYi l yX7_again wsX7_again ad dC dI cy a_x a_m a_o [.int v1] σ o w sz (fun r I' H' J' _ => C_again I H d J v1 r I' H' J') := by
  obtain ⟨wx, wm, rfl, hx, hm⟩ := hW
  obtain ⟨A, fi, fl, fa, fb, rfl, hR, -⟩ := hm
  have hM := lift_mi (a_x := a_x) (a_o := a_o) (σ := σ) (o := o) (bm_again l ad dC dI cy a_m (A 0) (A 1) (A 2) (A 3) (A 4) (A 5) (A 6) (A 7) (A 8) (A 9) (A 10) (A 11) (A 12) (A 13) (A 14) sz (fi 0) (fi 1) (fi 2) (fi 3) (fi 4) (fi 5) (fl 0) (fl 1) (fi 6) (fi 7) (fi 8) (fl 2) (fl 3) (fi 9) (fl 4) (fi 10) (fl 5) (fl 6) (fi 11) (fi 12) (fi 13) (fi 14) (fl 7) (fl 8) (fl 9) (fi 15) (fa 0) (fa 1) (fa 2) (fa 3) (fa 4) (fa 5) (fb 0) (fb 1) (fb 2) (fb 3) (fb 4) (fb 5) (fb 6) (fb 7) (fa 6) v1 hS hR) hx
  refine ⟨_, Nat.le_of_ble_eq_true rfl, Nat.le_of_ble_eq_true rfl, rfl, rfl, xMi_imp hM (fun r ζ' h => ?_)⟩
  obtain ⟨I', H', J', ra', rfl, hv'⟩ := h
  exact ⟨hv'.1, hv'.2.1⟩
set_option maxHeartbeats 4000000 in
set_option maxRecDepth 100000 in
theorem ly_image {l : Launch} {ad : (Nat → Nat) × (Nat → Nat)} {dC : Nat → ClassId} {dI : Nat → Nat → Nat} {cy : Nat → ClassId} {a_x a_m a_o : Nat} {o : Nat → Int64} {w : va_W} {sz : Nat} {I : ZI} {H : List ZL} {d : ZC} {J : Nat → Option ZI} {qc qt qf : Nat × Nat} {σ : ZS} {ra : Int32} (hS : z_S (I, H, d, J, qc, qt, qf)) (hW : LW cy a_x a_m a_o σ (I, H, J, ra) o w) (v1 : Int32) : LYi l yX7_image wsX7_image ad dC dI cy a_x a_m a_o [.int v1] σ o w sz (fun r I' H' J' _ => C_image I H d J v1 r I' H' J') := by
  obtain ⟨wx, wm, rfl, hx, hm⟩ := hW
  obtain ⟨A, fi, fl, fa, fb, rfl, hR, -⟩ := hm
  have hM := lift_mi (a_x := a_x) (a_o := a_o) (σ := σ) (o := o) (bm_image l ad dC dI cy a_m (A 0) (A 1) (A 2) (A 3) (A 4) (A 5) (A 6) (A 7) (A 8) (A 9) (A 10) (A 11) (A 12) (A 13) (A 14) sz (fi 0) (fi 1) (fi 2) (fi 3) (fi 4) (fi 5) (fl 0) (fl 1) (fi 6) (fi 7) (fi 8) (fl 2) (fl 3) (fi 9) (fl 4) (fi 10) (fl 5) (fl 6) (fi 11) (fi 12) (fi 13) (fi 14) (fl 7) (fl 8) (fl 9) (fi 15) (fa 0) (fa 1) (fa 2) (fa 3) (fa 4) (fa 5) (fb 0) (fb 1) (fb 2) (fb 3) (fb 4) (fb 5) (fb 6) (fb 7) (fa 6) v1 hS hR) hx
  refine ⟨_, Nat.le_of_ble_eq_true rfl, Nat.le_of_ble_eq_true rfl, rfl, rfl, xMi_imp hM (fun r ζ' h => ?_)⟩
  obtain ⟨I', H', J', ra', rfl, hv'⟩ := h
  exact hv'.1
set_option maxHeartbeats 4000000 in
set_option maxRecDepth 100000 in
theorem ly_type {l : Launch} {ad : (Nat → Nat) × (Nat → Nat)} {dC : Nat → ClassId} {dI : Nat → Nat → Nat} {cy : Nat → ClassId} {a_x a_m a_o : Nat} {o : Nat → Int64} {w : va_W} {sz : Nat} {I : ZI} {H : List ZL} {d : ZC} {J : Nat → Option ZI} {qc qt qf : Nat × Nat} {σ : ZS} {ra : Int32} (hS : z_S (I, H, d, J, qc, qt, qf)) (hW : LW cy a_x a_m a_o σ (I, H, J, ra) o w) (v1 : Int64) {n : Nat} (hv : v1 = lN n) (hn : n < 2 ^ 64) : LYi l yX7_type wsX7_type ad dC dI cy a_x a_m a_o [.long v1] σ o w sz (fun r I' H' J' _ => C_type I H d J n r I' H' J') := by
  obtain ⟨wx, wm, rfl, hx, hm⟩ := hW
  obtain ⟨A, fi, fl, fa, fb, rfl, hR, -⟩ := hm
  have hM := lift_mi (a_x := a_x) (a_o := a_o) (σ := σ) (o := o) (bm_type l ad dC dI cy a_m (A 0) (A 1) (A 2) (A 3) (A 4) (A 5) (A 6) (A 7) (A 8) (A 9) (A 10) (A 11) (A 12) (A 13) (A 14) sz (fi 0) (fi 1) (fi 2) (fi 3) (fi 4) (fi 5) (fl 0) (fl 1) (fi 6) (fi 7) (fi 8) (fl 2) (fl 3) (fi 9) (fl 4) (fi 10) (fl 5) (fl 6) (fi 11) (fi 12) (fi 13) (fi 14) (fl 7) (fl 8) (fl 9) (fi 15) (fa 0) (fa 1) (fa 2) (fa 3) (fa 4) (fa 5) (fb 0) (fb 1) (fb 2) (fb 3) (fb 4) (fb 5) (fb 6) (fb 7) (fa 6) v1 hS hR hv hn) hx
  refine ⟨_, Nat.le_of_ble_eq_true rfl, Nat.le_of_ble_eq_true rfl, rfl, rfl, xMi_imp hM (fun r ζ' h => ?_)⟩
  obtain ⟨I', H', J', ra', rfl, hv'⟩ := h
  exact ⟨hv'.1, hv'.2.1, hv'.2.2.1⟩
set_option maxHeartbeats 4000000 in
set_option maxRecDepth 100000 in
theorem ly_shelve {l : Launch} {ad : (Nat → Nat) × (Nat → Nat)} {dC : Nat → ClassId} {dI : Nat → Nat → Nat} {cy : Nat → ClassId} {a_x a_m a_o : Nat} {o : Nat → Int64} {w : va_W} {sz : Nat} {I : ZI} {H : List ZL} {d : ZC} {J : Nat → Option ZI} {qc qt qf : Nat × Nat} {σ : ZS} {ra : Int32} (hS : z_S (I, H, d, J, qc, qt, qf)) (hW : LW cy a_x a_m a_o σ (I, H, J, ra) o w) (v1 : Int32) (v2 : Int32) (v3 : Int32) (v4 : Int32) : LYi l yX7_shelve wsX7_shelve ad dC dI cy a_x a_m a_o [.int v1, .int v2, .int v3, .int v4] σ o w sz (fun r I' H' J' _ => C_shelve I H d J v1 v2 v3 v4 r I' H' J') := by
  obtain ⟨wx, wm, rfl, hx, hm⟩ := hW
  obtain ⟨A, fi, fl, fa, fb, rfl, hR, -⟩ := hm
  have hM := lift_mi (a_x := a_x) (a_o := a_o) (σ := σ) (o := o) (bm_shelve l ad dC dI cy a_m (A 0) (A 1) (A 2) (A 3) (A 4) (A 5) (A 6) (A 7) (A 8) (A 9) (A 10) (A 11) (A 12) (A 13) (A 14) sz (fi 0) (fi 1) (fi 2) (fi 3) (fi 4) (fi 5) (fl 0) (fl 1) (fi 6) (fi 7) (fi 8) (fl 2) (fl 3) (fi 9) (fl 4) (fi 10) (fl 5) (fl 6) (fi 11) (fi 12) (fi 13) (fi 14) (fl 7) (fl 8) (fl 9) (fi 15) (fa 0) (fa 1) (fa 2) (fa 3) (fa 4) (fa 5) (fb 0) (fb 1) (fb 2) (fb 3) (fb 4) (fb 5) (fb 6) (fb 7) (fa 6) v1 v2 v3 v4 hS hR) hx
  refine ⟨_, Nat.le_of_ble_eq_true rfl, Nat.le_of_ble_eq_true rfl, rfl, rfl, xMi_imp hM (fun r ζ' h => ?_)⟩
  obtain ⟨I', H', J', ra', rfl, hv'⟩ := h
  exact ⟨hv'.1, hv'.2.1⟩
set_option maxHeartbeats 4000000 in
set_option maxRecDepth 100000 in
theorem ly_fault {l : Launch} {ad : (Nat → Nat) × (Nat → Nat)} {dC : Nat → ClassId} {dI : Nat → Nat → Nat} {cy : Nat → ClassId} {a_x a_m a_o : Nat} {o : Nat → Int64} {w : va_W} {sz : Nat} {I : ZI} {H : List ZL} {d : ZC} {J : Nat → Option ZI} {qc qt qf : Nat × Nat} {σ : ZS} {ra : Int32} (hS : z_S (I, H, d, J, qc, qt, qf)) (hW : LW cy a_x a_m a_o σ (I, H, J, ra) o w) (v1 : Int32) : LYi l yX7_fault wsX7_fault ad dC dI cy a_x a_m a_o [.int v1] σ o w sz (fun r I' H' J' _ => C_fault I H d J v1 r I' H' J') := by
  obtain ⟨wx, wm, rfl, hx, hm⟩ := hW
  obtain ⟨A, fi, fl, fa, fb, rfl, hR, -⟩ := hm
  have hM := lift_mi (a_x := a_x) (a_o := a_o) (σ := σ) (o := o) (bm_fault l ad dC dI cy a_m (A 0) (A 1) (A 2) (A 3) (A 4) (A 5) (A 6) (A 7) (A 8) (A 9) (A 10) (A 11) (A 12) (A 13) (A 14) sz (fi 0) (fi 1) (fi 2) (fi 3) (fi 4) (fi 5) (fl 0) (fl 1) (fi 6) (fi 7) (fi 8) (fl 2) (fl 3) (fi 9) (fl 4) (fi 10) (fl 5) (fl 6) (fi 11) (fi 12) (fi 13) (fi 14) (fl 7) (fl 8) (fl 9) (fi 15) (fa 0) (fa 1) (fa 2) (fa 3) (fa 4) (fa 5) (fb 0) (fb 1) (fb 2) (fb 3) (fb 4) (fb 5) (fb 6) (fb 7) (fa 6) v1 hS hR) hx
  refine ⟨_, Nat.le_of_ble_eq_true rfl, Nat.le_of_ble_eq_true rfl, rfl, rfl, xMi_imp hM (fun r ζ' h => ?_)⟩
  obtain ⟨I', H', J', ra', rfl, hv'⟩ := h
  exact ⟨hv'.1, hv'.2.1, hv'.2.2.1, hv'.2.2.2.1⟩
set_option maxHeartbeats 4000000 in
set_option maxRecDepth 100000 in
theorem ly_count {l : Launch} {ad : (Nat → Nat) × (Nat → Nat)} {dC : Nat → ClassId} {dI : Nat → Nat → Nat} {cy : Nat → ClassId} {a_x a_m a_o : Nat} {o : Nat → Int64} {w : va_W} {sz : Nat} {I : ZI} {H : List ZL} {d : ZC} {J : Nat → Option ZI} {qc qt qf : Nat × Nat} {σ : ZS} {ra : Int32} (hS : z_S (I, H, d, J, qc, qt, qf)) (hW : LW cy a_x a_m a_o σ (I, H, J, ra) o w) (v1 : Int32) : LYi l yX7_count wsX7_count ad dC dI cy a_x a_m a_o [.int v1] σ o w sz (fun r I' H' J' _ => C_count I H d J v1 r I' H' J') := by
  obtain ⟨wx, wm, rfl, hx, hm⟩ := hW
  obtain ⟨A, fi, fl, fa, fb, rfl, hR, -⟩ := hm
  have hM := lift_mi (a_x := a_x) (a_o := a_o) (σ := σ) (o := o) (bm_count l ad dC dI cy a_m (A 0) (A 1) (A 2) (A 3) (A 4) (A 5) (A 6) (A 7) (A 8) (A 9) (A 10) (A 11) (A 12) (A 13) (A 14) sz (fi 0) (fi 1) (fi 2) (fi 3) (fi 4) (fi 5) (fl 0) (fl 1) (fi 6) (fi 7) (fi 8) (fl 2) (fl 3) (fi 9) (fl 4) (fi 10) (fl 5) (fl 6) (fi 11) (fi 12) (fi 13) (fi 14) (fl 7) (fl 8) (fl 9) (fi 15) (fa 0) (fa 1) (fa 2) (fa 3) (fa 4) (fa 5) (fb 0) (fb 1) (fb 2) (fb 3) (fb 4) (fb 5) (fb 6) (fb 7) (fa 6) v1 hS hR) hx
  refine ⟨_, Nat.le_of_ble_eq_true rfl, Nat.le_of_ble_eq_true rfl, rfl, rfl, xMi_imp hM (fun r ζ' h => ?_)⟩
  obtain ⟨I', H', J', ra', rfl, hv'⟩ := h
  exact ⟨hv'.1, hv'.2.1, hv'.2.2.1, hv'.2.2.2.1⟩
set_option maxHeartbeats 4000000 in
set_option maxRecDepth 100000 in
theorem ly_reduced {l : Launch} {ad : (Nat → Nat) × (Nat → Nat)} {dC : Nat → ClassId} {dI : Nat → Nat → Nat} {cy : Nat → ClassId} {a_x a_m a_o : Nat} {o : Nat → Int64} {w : va_W} {sz : Nat} {I : ZI} {H : List ZL} {d : ZC} {J : Nat → Option ZI} {qc qt qf : Nat × Nat} {σ : ZS} {ra : Int32} (hS : z_S (I, H, d, J, qc, qt, qf)) (hW : LW cy a_x a_m a_o σ (I, H, J, ra) o w) (v1 : Int32) : LYl l yX7_reduced wsX7_reduced ad dC dI cy a_x a_m a_o [.int v1] σ o w sz (fun r I' H' J' _ => C_reduced I H d J v1 r I' H' J') := by
  obtain ⟨wx, wm, rfl, hx, hm⟩ := hW
  obtain ⟨A, fi, fl, fa, fb, rfl, hR, -⟩ := hm
  have hM := lift_ml (a_x := a_x) (a_o := a_o) (σ := σ) (o := o) (bm_reduced l ad dC dI cy a_m (A 0) (A 1) (A 2) (A 3) (A 4) (A 5) (A 6) (A 7) (A 8) (A 9) (A 10) (A 11) (A 12) (A 13) (A 14) sz (fi 0) (fi 1) (fi 2) (fi 3) (fi 4) (fi 5) (fl 0) (fl 1) (fi 6) (fi 7) (fi 8) (fl 2) (fl 3) (fi 9) (fl 4) (fi 10) (fl 5) (fl 6) (fi 11) (fi 12) (fi 13) (fi 14) (fl 7) (fl 8) (fl 9) (fi 15) (fa 0) (fa 1) (fa 2) (fa 3) (fa 4) (fa 5) (fb 0) (fb 1) (fb 2) (fb 3) (fb 4) (fb 5) (fb 6) (fb 7) (fa 6) v1 hS hR) hx
  refine ⟨_, Nat.le_of_ble_eq_true rfl, Nat.le_of_ble_eq_true rfl, rfl, rfl, xMl_imp hM (fun r ζ' h => ?_)⟩
  obtain ⟨I', H', J', ra', rfl, hv'⟩ := h
  exact ⟨hv'.1, hv'.2.1, hv'.2.2.1, hv'.2.2.2.1⟩
set_option maxHeartbeats 4000000 in
set_option maxRecDepth 100000 in
theorem ly_order {l : Launch} {ad : (Nat → Nat) × (Nat → Nat)} {dC : Nat → ClassId} {dI : Nat → Nat → Nat} {cy : Nat → ClassId} {a_x a_m a_o : Nat} {o : Nat → Int64} {w : va_W} {sz : Nat} {I : ZI} {H : List ZL} {d : ZC} {J : Nat → Option ZI} {qc qt qf : Nat × Nat} {σ : ZS} {ra : Int32} (hS : z_S (I, H, d, J, qc, qt, qf)) (hW : LW cy a_x a_m a_o σ (I, H, J, ra) o w) (v1 : Int32) : LYi l yX7_order wsX7_order ad dC dI cy a_x a_m a_o [.int v1] σ o w sz (fun r I' H' J' _ => C_order I H d J v1 r I' H' J') := by
  obtain ⟨wx, wm, rfl, hx, hm⟩ := hW
  obtain ⟨A, fi, fl, fa, fb, rfl, hR, -⟩ := hm
  have hM := lift_mi (a_x := a_x) (a_o := a_o) (σ := σ) (o := o) (bm_order l ad dC dI cy a_m (A 0) (A 1) (A 2) (A 3) (A 4) (A 5) (A 6) (A 7) (A 8) (A 9) (A 10) (A 11) (A 12) (A 13) (A 14) sz (fi 0) (fi 1) (fi 2) (fi 3) (fi 4) (fi 5) (fl 0) (fl 1) (fi 6) (fi 7) (fi 8) (fl 2) (fl 3) (fi 9) (fl 4) (fi 10) (fl 5) (fl 6) (fi 11) (fi 12) (fi 13) (fi 14) (fl 7) (fl 8) (fl 9) (fi 15) (fa 0) (fa 1) (fa 2) (fa 3) (fa 4) (fa 5) (fb 0) (fb 1) (fb 2) (fb 3) (fb 4) (fb 5) (fb 6) (fb 7) (fa 6) v1 hS hR) hx
  refine ⟨_, Nat.le_of_ble_eq_true rfl, Nat.le_of_ble_eq_true rfl, rfl, rfl, xMi_imp hM (fun r ζ' h => ?_)⟩
  obtain ⟨I', H', J', ra', rfl, hv'⟩ := h
  exact ⟨hv'.1, hv'.2.1, hv'.2.2.1, hv'.2.2.2.1⟩
