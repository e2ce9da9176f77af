theorem xG_same {l : Launch} {y : MethodName} {wsy : List Cond} {rm : Room} {ad : (Nat → Nat) × (Nat → Nat)} {D : va_G} {cl : List vw_C} {tys : List (ClassId × FieldType)} {av : List Value} {W1 W2 : va_W} {sz : Nat} {S : Type} {post : Int32 → S → Prop} {F : S → va_W → Prop} {mc ms : Nat} (hM : xMi l y wsy rm ad D cl tys av W1 sz post F mc ms) (h12 : wle W1 W2) : xMi l y wsy rm ad D cl tys av W2 sz post F mc ms :=
  xG_i hM h12 (fun _ u w1 h1 h2 => ⟨u, w1, h1, h2, wle.rf _⟩)
theorem w_nil0 (B P1 P2 : va_W) : wle (B ++ (P1 ++ P2)) (B ++ ([] ++ (P1 ++ P2))) := wle.rf _
theorem w_nil1 (B P0 P2 : va_W) : wle (B ++ (P0 ++ P2)) (B ++ (P0 ++ ([] ++ P2))) := wle.rf _
theorem w_nil2 (B P0 P1 : va_W) : wle (B ++ (P0 ++ P1)) (B ++ (P0 ++ (P1 ++ []))) := by
  rw [List.append_nil]
  exact wle.rf _
theorem v_no {v : Int32} (h : v < 0 ∨ 3 ≤ v) : ¬ ∃ k, v = nI k ∧ k < 3 := by
  rintro ⟨k, e, hk⟩
  subst e
  rcases h with h | h
  · exact absurd h (nI_nlt (b := 0) (Nat.zero_le _) (by omega))
  · rw [show (3 : Int32) = nI 3 from rfl, nI_leI (by omega) (by omega)] at h
    omega
theorem v_in {v : Int32} (h0 : ¬ v < 0) (h3 : ¬ 3 ≤ v) : v = nI 0 ∨ v = nI 1 ∨ v = nI 2 := by
  obtain ⟨j, hj, rfl⟩ := nI_of h0
  rw [show (3 : Int32) = nI 3 from rfl, nI_leI (by omega) hj] at h3
  have : j = 0 ∨ j = 1 ∨ j = 2 := by omega
  rcases this with rfl | rfl | rfl
  · exact Or.inl rfl
  · exact Or.inr (Or.inl rfl)
  · exact Or.inr (Or.inr rfl)
theorem v_none {J : Nat → Option ZI} {k j : Nat} {I3 : ZI} (hk : k < 3) (hj : j < 3) (e : nI k = nI j) (h : J k = none) (h' : J j = some I3) : False := by
  have : k = j := (nI_eq (by omega) (by omega)).mp e
  subst this
  rw [h] at h'
  cases h'
set_option maxHeartbeats 4000000 in
set_option maxRecDepth 100000 in
theorem lx_image {l : Launch} {ad : (Nat → Nat) × (Nat → Nat)} {dC : Nat → ClassId} {dI : Nat → Nat → Nat} {cy : Nat → ClassId} {a_x a_m a_o : Nat} {o : Nat → Int64} {w : va_W} {sz : Nat} {I : ZI} {H : List ZL} {d : ZC} {J : Nat → Option ZI} {qc qt qf : Nat × Nat} {ζ : ZM} (hS : z_S (I, H, d, J, qc, qt, qf)) (hW : LW cy a_x a_m a_o (I, H, d, J, qc, qt, qf) ζ o w) (v1 : Int32) : LXi l yX6_image wsX6_image ad dC dI cy a_x a_m a_o [.int v1] (I, H, d, J, qc, qt, qf) ζ o w sz (C_image I H d J v1) := by
  obtain ⟨wx, wm, rfl, hx, hm⟩ := hW
  obtain ⟨A, fi, fl, fa, fb, fc, fp, im, P0, P1, P2, rfl, hR, h0, h1, h2⟩ := hx
  obtain ⟨hl, hat, hHok, hJok⟩ : l_lim I.1 ∧ l_at I.1 d ∧ (∀ M ∈ H, l_ok M) ∧ (∀ k I, k < 3 → J k = some I → l_ok I.1) := id hS
  obtain ⟨-, -, -, ⟨hqc, -⟩, -, -, -⟩ := id hR
  have hz0 : 0 + 6 * zQ (I, H, d, J, qc, qt, qf) ≤ 6 * zQ (I, H, d, J, qc, qt, qf) + 8 := by omega
  have hz1 : 0 + 6 * zQ (I, H, d, J, qc, qt, qf) ≤ 6 * zQ (I, H, d, J, qc, qt, qf) + 800 := by omega
  by_cases g0 : v1 < 0
  · have hM := lift_xi (a_m := a_m) (a_o := a_o) (o := o) (bx_image_vlo l ad dC dI cy a_x (A 0) (A 1) (A 2) (A 3) (A 4) (A 5) (A 6) (A 7) (A 8) (A 9) (A 10) (A 11) (A 12) (A 13) (A 14) (A 15) (A 16) (A 17) (A 18) (A 19) (A 20) (A 21) (A 22) (A 23) (A 24) (A 25) (A 26) (A 27) (A 28) (A 29) (A 30) (A 31) (A 32) (A 33) (A 34) (A 35) (A 36) (A 37) (A 38) (A 39) (A 40) (A 41) (A 42) (A 43) (A 44) (A 45) (A 46) (A 47) (A 48) (A 49) (A 50) (A 51) (A 52) (A 53) (A 54) (A 55) (A 56) (A 57) (A 58) (A 59) (A 60) (A 61) (A 62) (A 63) (A 64) (A 65) (A 66) (A 67) (A 68) (A 69) (A 70) (A 71) (A 72) (A 73) (A 74) (A 75) sz (fi 0) (fi 1) (fi 2) (fi 3) (fi 4) (fi 5) (fi 6) (fi 7) (fl 0) (fi 8) (fi 9) (fi 10) (fi 11) (fi 12) (fa 0) (fa 1) (fi 13) (fi 14) (fi 15) (fi 16) (fi 17) (fi 18) (fi 19) (fi 20) (fa 2) (fa 3) (fa 4) (fc 0) (fa 5) (fa 6) (fa 7) (fa 8) (fc 1) (fa 9) (fa 10) (fb 0) (fc 2) (fi 21) (fi 22) (fa 11) (fc 3) (fa 12) (fc 4) (fb 1) (fc 5) (fa 13) (fc 6) (fa 14) (fc 7) (fb 2) (fc 8) (fi 23) (fa 15) (fc 9) (fa 16) (fc 10) (fb 3) (fc 11) (fi 24) (fi 25) (fi 26) (fi 27) (fi 28) (fi 29) (fi 30) (fi 31) (fi 32) (fi 33) (fl 1) (fi 34) (fi 35) (fi 36) (fi 37) (fi 38) (fi 39) (fi 40) (fa 17) (fa 18) (fa 19) (fa 20) (fa 21) (fa 22) (fa 23) (fc 12) (fa 24) (fc 13) (fb 4) (fc 14) (fa 25) (fc 15) (fa 26) (fc 16) (fb 5) (fc 17) (fa 27) (fa 28) (fa 29) (fa 30) (fp 0) (fp 1) im (fi 41) (fi 42) (fi 43) (fi 44) (fi 45) (fi 46) (fi 47) (fi 48) (fa 31) (fa 32) v1 hS hR h0 h1 h2 g0) hm
    refine ⟨_, _, _, Nat.le_of_ble_eq_true rfl, Nat.le_of_ble_eq_true rfl, rfl, rfl, Nat.zero_le _, Nat.zero_le _, xMi_imp hM (fun r σ' h => ?_)⟩
    obtain ⟨er, rfl⟩ := h
    exact ⟨Or.inr ⟨v_no (Or.inl g0), er, rfl, rfl, rfl⟩, hS, hz0, hz1⟩
  by_cases g3 : (3 : Int32) ≤ v1
  · have hM := lift_xi (a_m := a_m) (a_o := a_o) (o := o) (bx_image_vhi l ad dC dI cy a_x (A 0) (A 1) (A 2) (A 3) (A 4) (A 5) (A 6) (A 7) (A 8) (A 9) (A 10) (A 11) (A 12) (A 13) (A 14) (A 15) (A 16) (A 17) (A 18) (A 19) (A 20) (A 21) (A 22) (A 23) (A 24) (A 25) (A 26) (A 27) (A 28) (A 29) (A 30) (A 31) (A 32) (A 33) (A 34) (A 35) (A 36) (A 37) (A 38) (A 39) (A 40) (A 41) (A 42) (A 43) (A 44) (A 45) (A 46) (A 47) (A 48) (A 49) (A 50) (A 51) (A 52) (A 53) (A 54) (A 55) (A 56) (A 57) (A 58) (A 59) (A 60) (A 61) (A 62) (A 63) (A 64) (A 65) (A 66) (A 67) (A 68) (A 69) (A 70) (A 71) (A 72) (A 73) (A 74) (A 75) sz (fi 0) (fi 1) (fi 2) (fi 3) (fi 4) (fi 5) (fi 6) (fi 7) (fl 0) (fi 8) (fi 9) (fi 10) (fi 11) (fi 12) (fa 0) (fa 1) (fi 13) (fi 14) (fi 15) (fi 16) (fi 17) (fi 18) (fi 19) (fi 20) (fa 2) (fa 3) (fa 4) (fc 0) (fa 5) (fa 6) (fa 7) (fa 8) (fc 1) (fa 9) (fa 10) (fb 0) (fc 2) (fi 21) (fi 22) (fa 11) (fc 3) (fa 12) (fc 4) (fb 1) (fc 5) (fa 13) (fc 6) (fa 14) (fc 7) (fb 2) (fc 8) (fi 23) (fa 15) (fc 9) (fa 16) (fc 10) (fb 3) (fc 11) (fi 24) (fi 25) (fi 26) (fi 27) (fi 28) (fi 29) (fi 30) (fi 31) (fi 32) (fi 33) (fl 1) (fi 34) (fi 35) (fi 36) (fi 37) (fi 38) (fi 39) (fi 40) (fa 17) (fa 18) (fa 19) (fa 20) (fa 21) (fa 22) (fa 23) (fc 12) (fa 24) (fc 13) (fb 4) (fc 14) (fa 25) (fc 15) (fa 26) (fc 16) (fb 5) (fc 17) (fa 27) (fa 28) (fa 29) (fa 30) (fp 0) (fp 1) im (fi 41) (fi 42) (fi 43) (fi 44) (fi 45) (fi 46) (fi 47) (fi 48) (fa 31) (fa 32) v1 hS hR h0 h1 h2 g0 g3) hm
    refine ⟨_, _, _, Nat.le_of_ble_eq_true rfl, Nat.le_of_ble_eq_true rfl, rfl, rfl, Nat.zero_le _, Nat.zero_le _, xMi_imp hM (fun r σ' h => ?_)⟩
    obtain ⟨er, rfl⟩ := h
    exact ⟨Or.inr ⟨v_no (Or.inr g3), er, rfl, rfl, rfl⟩, hS, hz0, hz1⟩
  rcases v_in g0 g3 with hv | hv | hv
  · replace hv : v1 = (0 : Int32) := hv
    subst hv
    rcases id h0 with ⟨o0, j0, p0⟩ | ⟨a_i, a_l, a_w, a_p, a_t, a_s, a_q, I2, f0, f1, f2, f3, f4, f5, f6, f7, f8, f9, f10, f11, o0, j0, p0, hI2⟩
    · subst p0
      have hM := lift_xi (a_m := a_m) (a_o := a_o) (o := o) (xG_same (bx_image_vn0 l ad dC dI cy a_x (A 0) (A 1) (A 2) (A 3) (A 4) (A 5) (A 6) (A 7) (A 8) (A 9) (A 10) (A 11) (A 12) (A 13) (A 14) (A 15) (A 16) (A 17) (A 18) (A 19) (A 20) (A 21) (A 22) (A 23) (A 24) (A 25) (A 26) (A 27) (A 28) (A 29) (A 30) (A 31) (A 32) (A 33) (A 34) (A 35) (A 36) (A 37) (A 38) (A 39) (A 40) (A 41) (A 42) (A 43) (A 44) (A 45) (A 46) (A 47) (A 48) (A 49) (A 50) (A 51) (A 52) (A 53) (A 54) (A 55) (A 56) (A 57) (A 58) (A 59) (A 60) (A 61) (A 62) (A 63) (A 64) (A 65) (A 66) (A 67) (A 68) (A 69) (A 70) (A 71) (A 72) (A 73) (A 74) (A 75) sz (fi 0) (fi 1) (fi 2) (fi 3) (fi 4) (fi 5) (fi 6) (fi 7) (fl 0) (fi 8) (fi 9) (fi 10) (fi 11) (fi 12) (fa 0) (fa 1) (fi 13) (fi 14) (fi 15) (fi 16) (fi 17) (fi 18) (fi 19) (fi 20) (fa 2) (fa 3) (fa 4) (fc 0) (fa 5) (fa 6) (fa 7) (fa 8) (fc 1) (fa 9) (fa 10) (fb 0) (fc 2) (fi 21) (fi 22) (fa 11) (fc 3) (fa 12) (fc 4) (fb 1) (fc 5) (fa 13) (fc 6) (fa 14) (fc 7) (fb 2) (fc 8) (fi 23) (fa 15) (fc 9) (fa 16) (fc 10) (fb 3) (fc 11) (fi 24) (fi 25) (fi 26) (fi 27) (fi 28) (fi 29) (fi 30) (fi 31) (fi 32) (fi 33) (fl 1) (fi 34) (fi 35) (fi 36) (fi 37) (fi 38) (fi 39) (fi 40) (fa 17) (fa 18) (fa 19) (fa 20) (fa 21) (fa 22) (fa 23) (fc 12) (fa 24) (fc 13) (fb 4) (fc 14) (fa 25) (fc 15) (fa 26) (fc 16) (fb 5) (fc 17) (fa 27) (fa 28) (fa 29) (fa 30) (fp 0) (fp 1) im (fi 41) (fi 42) (fi 43) (fi 44) (fi 45) (fi 46) (fi 47) (fi 48) (fa 31) (fa 32) hS hR h1 h2 o0) (w_nil0 _ _ _)) hm
      refine ⟨_, _, _, Nat.le_of_ble_eq_true rfl, Nat.le_of_ble_eq_true rfl, rfl, rfl, Nat.le_of_ble_eq_true rfl, Nat.le_of_ble_eq_true rfl, xMi_imp hM (fun r σ' h => ?_)⟩
      obtain ⟨er, rfl⟩ := h
      refine ⟨Or.inl ⟨0, rfl, by omega, er, rfl, rfl, rfl⟩, ⟨hl, hat, hHok, fun j I3 hj e => xJ_ok hJok ⟨hl, d, hat⟩ hj e⟩, ?_, ?_⟩
      · exact (show 7 + 6 * zQ (I, H, d, J, qc, qt, qf) ≤ 6 * zQ (I, H, d, J, qc, qt, qf) + 8 from by omega)
      · exact (show 749 + 6 * zQ (I, H, d, J, qc, qt, qf) ≤ 6 * zQ (I, H, d, J, qc, qt, qf) + 800 from by omega)
    · subst p0
      have hM := lift_xi (a_m := a_m) (a_o := a_o) (o := o) (xG_same (bx_image_vs0 l ad dC dI cy a_x (A 0) (A 1) (A 2) (A 3) (A 4) (A 5) (A 6) (A 7) (A 8) (A 9) (A 10) (A 11) (A 12) (A 13) (A 14) (A 15) (A 16) (A 17) (A 18) (A 19) (A 20) (A 21) (A 22) (A 23) (A 24) (A 25) (A 26) (A 27) (A 28) (A 29) (A 30) (A 31) (A 32) (A 33) (A 34) (A 35) (A 36) (A 37) (A 38) (A 39) (A 40) (A 41) (A 42) (A 43) (A 44) (A 45) (A 46) (A 47) (A 48) (A 49) (A 50) (A 51) (A 52) (A 53) (A 54) (A 55) (A 56) (A 57) (A 58) (A 59) (A 60) (A 61) (A 62) (A 63) (A 64) (A 65) (A 66) (A 67) (A 68) (A 69) (A 70) (A 71) (A 72) (A 73) (A 74) (A 75) sz (fi 0) (fi 1) (fi 2) (fi 3) (fi 4) (fi 5) (fi 6) (fi 7) (fl 0) (fi 8) (fi 9) (fi 10) (fi 11) (fi 12) (fa 0) (fa 1) (fi 13) (fi 14) (fi 15) (fi 16) (fi 17) (fi 18) (fi 19) (fi 20) (fa 2) (fa 3) (fa 4) (fc 0) (fa 5) (fa 6) (fa 7) (fa 8) (fc 1) (fa 9) (fa 10) (fb 0) (fc 2) (fi 21) (fi 22) (fa 11) (fc 3) (fa 12) (fc 4) (fb 1) (fc 5) (fa 13) (fc 6) (fa 14) (fc 7) (fb 2) (fc 8) (fi 23) (fa 15) (fc 9) (fa 16) (fc 10) (fb 3) (fc 11) (fi 24) (fi 25) (fi 26) (fi 27) (fi 28) (fi 29) (fi 30) (fi 31) (fi 32) (fi 33) (fl 1) (fi 34) (fi 35) (fi 36) (fi 37) (fi 38) (fi 39) (fi 40) (fa 17) (fa 18) (fa 19) (fa 20) (fa 21) (fa 22) (fa 23) (fc 12) (fa 24) (fc 13) (fb 4) (fc 14) (fa 25) (fc 15) (fa 26) (fc 16) (fb 5) (fc 17) (fa 27) (fa 28) (fa 29) (fa 30) (fp 0) (fp 1) im (fi 41) (fi 42) (fi 43) (fi 44) (fi 45) (fi 46) (fi 47) (fi 48) (fa 31) (fa 32) a_i a_l a_w a_p a_t a_s a_q f0 f1 f2 f3 f4 f5 f6 f7 f8 f9 f10 f11 hS hR h1 h2 hI2 j0 o0) (w_out0 _ _ _ _)) hm
      refine ⟨_, _, _, Nat.le_of_ble_eq_true rfl, Nat.le_of_ble_eq_true rfl, rfl, rfl, Nat.le_of_ble_eq_true rfl, Nat.le_of_ble_eq_true rfl, xMi_imp hM (fun r σ' h => ?_)⟩
      obtain ⟨er, rfl⟩ := h
      refine ⟨Or.inl ⟨0, rfl, by omega, er, rfl, rfl, rfl⟩, ⟨hl, hat, hHok, fun j I3 hj e => xJ_ok hJok ⟨hl, d, hat⟩ hj e⟩, ?_, ?_⟩
      · exact (show 0 + 6 * zQ (I, H, d, J, qc, qt, qf) ≤ 6 * zQ (I, H, d, J, qc, qt, qf) + 8 from by omega)
      · exact (show 0 + 6 * zQ (I, H, d, J, qc, qt, qf) ≤ 6 * zQ (I, H, d, J, qc, qt, qf) + 800 from by omega)
  · replace hv : v1 = (1 : Int32) := hv
    subst hv
    rcases id h1 with ⟨o0, j0, p0⟩ | ⟨a_i, a_l, a_w, a_p, a_t, a_s, a_q, I2, f0, f1, f2, f3, f4, f5, f6, f7, f8, f9, f10, f11, o0, j0, p0, hI2⟩
    · subst p0
      have hM := lift_xi (a_m := a_m) (a_o := a_o) (o := o) (xG_same (bx_image_vn1 l ad dC dI cy a_x (A 0) (A 1) (A 2) (A 3) (A 4) (A 5) (A 6) (A 7) (A 8) (A 9) (A 10) (A 11) (A 12) (A 13) (A 14) (A 15) (A 16) (A 17) (A 18) (A 19) (A 20) (A 21) (A 22) (A 23) (A 24) (A 25) (A 26) (A 27) (A 28) (A 29) (A 30) (A 31) (A 32) (A 33) (A 34) (A 35) (A 36) (A 37) (A 38) (A 39) (A 40) (A 41) (A 42) (A 43) (A 44) (A 45) (A 46) (A 47) (A 48) (A 49) (A 50) (A 51) (A 52) (A 53) (A 54) (A 55) (A 56) (A 57) (A 58) (A 59) (A 60) (A 61) (A 62) (A 63) (A 64) (A 65) (A 66) (A 67) (A 68) (A 69) (A 70) (A 71) (A 72) (A 73) (A 74) (A 75) sz (fi 0) (fi 1) (fi 2) (fi 3) (fi 4) (fi 5) (fi 6) (fi 7) (fl 0) (fi 8) (fi 9) (fi 10) (fi 11) (fi 12) (fa 0) (fa 1) (fi 13) (fi 14) (fi 15) (fi 16) (fi 17) (fi 18) (fi 19) (fi 20) (fa 2) (fa 3) (fa 4) (fc 0) (fa 5) (fa 6) (fa 7) (fa 8) (fc 1) (fa 9) (fa 10) (fb 0) (fc 2) (fi 21) (fi 22) (fa 11) (fc 3) (fa 12) (fc 4) (fb 1) (fc 5) (fa 13) (fc 6) (fa 14) (fc 7) (fb 2) (fc 8) (fi 23) (fa 15) (fc 9) (fa 16) (fc 10) (fb 3) (fc 11) (fi 24) (fi 25) (fi 26) (fi 27) (fi 28) (fi 29) (fi 30) (fi 31) (fi 32) (fi 33) (fl 1) (fi 34) (fi 35) (fi 36) (fi 37) (fi 38) (fi 39) (fi 40) (fa 17) (fa 18) (fa 19) (fa 20) (fa 21) (fa 22) (fa 23) (fc 12) (fa 24) (fc 13) (fb 4) (fc 14) (fa 25) (fc 15) (fa 26) (fc 16) (fb 5) (fc 17) (fa 27) (fa 28) (fa 29) (fa 30) (fp 0) (fp 1) im (fi 41) (fi 42) (fi 43) (fi 44) (fi 45) (fi 46) (fi 47) (fi 48) (fa 31) (fa 32) hS hR h0 h2 o0) (w_nil1 _ _ _)) hm
      refine ⟨_, _, _, Nat.le_of_ble_eq_true rfl, Nat.le_of_ble_eq_true rfl, rfl, rfl, Nat.le_of_ble_eq_true rfl, Nat.le_of_ble_eq_true rfl, xMi_imp hM (fun r σ' h => ?_)⟩
      obtain ⟨er, rfl⟩ := h
      refine ⟨Or.inl ⟨1, rfl, by omega, er, rfl, rfl, rfl⟩, ⟨hl, hat, hHok, fun j I3 hj e => xJ_ok hJok ⟨hl, d, hat⟩ hj e⟩, ?_, ?_⟩
      · exact (show 7 + 6 * zQ (I, H, d, J, qc, qt, qf) ≤ 6 * zQ (I, H, d, J, qc, qt, qf) + 8 from by omega)
      · exact (show 749 + 6 * zQ (I, H, d, J, qc, qt, qf) ≤ 6 * zQ (I, H, d, J, qc, qt, qf) + 800 from by omega)
    · subst p0
      have hM := lift_xi (a_m := a_m) (a_o := a_o) (o := o) (xG_same (bx_image_vs1 l ad dC dI cy a_x (A 0) (A 1) (A 2) (A 3) (A 4) (A 5) (A 6) (A 7) (A 8) (A 9) (A 10) (A 11) (A 12) (A 13) (A 14) (A 15) (A 16) (A 17) (A 18) (A 19) (A 20) (A 21) (A 22) (A 23) (A 24) (A 25) (A 26) (A 27) (A 28) (A 29) (A 30) (A 31) (A 32) (A 33) (A 34) (A 35) (A 36) (A 37) (A 38) (A 39) (A 40) (A 41) (A 42) (A 43) (A 44) (A 45) (A 46) (A 47) (A 48) (A 49) (A 50) (A 51) (A 52) (A 53) (A 54) (A 55) (A 56) (A 57) (A 58) (A 59) (A 60) (A 61) (A 62) (A 63) (A 64) (A 65) (A 66) (A 67) (A 68) (A 69) (A 70) (A 71) (A 72) (A 73) (A 74) (A 75) sz (fi 0) (fi 1) (fi 2) (fi 3) (fi 4) (fi 5) (fi 6) (fi 7) (fl 0) (fi 8) (fi 9) (fi 10) (fi 11) (fi 12) (fa 0) (fa 1) (fi 13) (fi 14) (fi 15) (fi 16) (fi 17) (fi 18) (fi 19) (fi 20) (fa 2) (fa 3) (fa 4) (fc 0) (fa 5) (fa 6) (fa 7) (fa 8) (fc 1) (fa 9) (fa 10) (fb 0) (fc 2) (fi 21) (fi 22) (fa 11) (fc 3) (fa 12) (fc 4) (fb 1) (fc 5) (fa 13) (fc 6) (fa 14) (fc 7) (fb 2) (fc 8) (fi 23) (fa 15) (fc 9) (fa 16) (fc 10) (fb 3) (fc 11) (fi 24) (fi 25) (fi 26) (fi 27) (fi 28) (fi 29) (fi 30) (fi 31) (fi 32) (fi 33) (fl 1) (fi 34) (fi 35) (fi 36) (fi 37) (fi 38) (fi 39) (fi 40) (fa 17) (fa 18) (fa 19) (fa 20) (fa 21) (fa 22) (fa 23) (fc 12) (fa 24) (fc 13) (fb 4) (fc 14) (fa 25) (fc 15) (fa 26) (fc 16) (fb 5) (fc 17) (fa 27) (fa 28) (fa 29) (fa 30) (fp 0) (fp 1) im (fi 41) (fi 42) (fi 43) (fi 44) (fi 45) (fi 46) (fi 47) (fi 48) (fa 31) (fa 32) a_i a_l a_w a_p a_t a_s a_q f0 f1 f2 f3 f4 f5 f6 f7 f8 f9 f10 f11 hS hR h0 h2 hI2 j0 o0) (w_out1 _ _ _ _)) hm
      refine ⟨_, _, _, Nat.le_of_ble_eq_true rfl, Nat.le_of_ble_eq_true rfl, rfl, rfl, Nat.le_of_ble_eq_true rfl, Nat.le_of_ble_eq_true rfl, xMi_imp hM (fun r σ' h => ?_)⟩
      obtain ⟨er, rfl⟩ := h
      refine ⟨Or.inl ⟨1, rfl, by omega, er, rfl, rfl, rfl⟩, ⟨hl, hat, hHok, fun j I3 hj e => xJ_ok hJok ⟨hl, d, hat⟩ hj e⟩, ?_, ?_⟩
      · exact (show 0 + 6 * zQ (I, H, d, J, qc, qt, qf) ≤ 6 * zQ (I, H, d, J, qc, qt, qf) + 8 from by omega)
      · exact (show 0 + 6 * zQ (I, H, d, J, qc, qt, qf) ≤ 6 * zQ (I, H, d, J, qc, qt, qf) + 800 from by omega)
  · replace hv : v1 = (2 : Int32) := hv
    subst hv
    rcases id h2 with ⟨o0, j0, p0⟩ | ⟨a_i, a_l, a_w, a_p, a_t, a_s, a_q, I2, f0, f1, f2, f3, f4, f5, f6, f7, f8, f9, f10, f11, o0, j0, p0, hI2⟩
    · subst p0
      have hM := lift_xi (a_m := a_m) (a_o := a_o) (o := o) (xG_same (bx_image_vn2 l ad dC dI cy a_x (A 0) (A 1) (A 2) (A 3) (A 4) (A 5) (A 6) (A 7) (A 8) (A 9) (A 10) (A 11) (A 12) (A 13) (A 14) (A 15) (A 16) (A 17) (A 18) (A 19) (A 20) (A 21) (A 22) (A 23) (A 24) (A 25) (A 26) (A 27) (A 28) (A 29) (A 30) (A 31) (A 32) (A 33) (A 34) (A 35) (A 36) (A 37) (A 38) (A 39) (A 40) (A 41) (A 42) (A 43) (A 44) (A 45) (A 46) (A 47) (A 48) (A 49) (A 50) (A 51) (A 52) (A 53) (A 54) (A 55) (A 56) (A 57) (A 58) (A 59) (A 60) (A 61) (A 62) (A 63) (A 64) (A 65) (A 66) (A 67) (A 68) (A 69) (A 70) (A 71) (A 72) (A 73) (A 74) (A 75) sz (fi 0) (fi 1) (fi 2) (fi 3) (fi 4) (fi 5) (fi 6) (fi 7) (fl 0) (fi 8) (fi 9) (fi 10) (fi 11) (fi 12) (fa 0) (fa 1) (fi 13) (fi 14) (fi 15) (fi 16) (fi 17) (fi 18) (fi 19) (fi 20) (fa 2) (fa 3) (fa 4) (fc 0) (fa 5) (fa 6) (fa 7) (fa 8) (fc 1) (fa 9) (fa 10) (fb 0) (fc 2) (fi 21) (fi 22) (fa 11) (fc 3) (fa 12) (fc 4) (fb 1) (fc 5) (fa 13) (fc 6) (fa 14) (fc 7) (fb 2) (fc 8) (fi 23) (fa 15) (fc 9) (fa 16) (fc 10) (fb 3) (fc 11) (fi 24) (fi 25) (fi 26) (fi 27) (fi 28) (fi 29) (fi 30) (fi 31) (fi 32) (fi 33) (fl 1) (fi 34) (fi 35) (fi 36) (fi 37) (fi 38) (fi 39) (fi 40) (fa 17) (fa 18) (fa 19) (fa 20) (fa 21) (fa 22) (fa 23) (fc 12) (fa 24) (fc 13) (fb 4) (fc 14) (fa 25) (fc 15) (fa 26) (fc 16) (fb 5) (fc 17) (fa 27) (fa 28) (fa 29) (fa 30) (fp 0) (fp 1) im (fi 41) (fi 42) (fi 43) (fi 44) (fi 45) (fi 46) (fi 47) (fi 48) (fa 31) (fa 32) hS hR h0 h1 o0) (w_nil2 _ _ _)) hm
      refine ⟨_, _, _, Nat.le_of_ble_eq_true rfl, Nat.le_of_ble_eq_true rfl, rfl, rfl, Nat.le_of_ble_eq_true rfl, Nat.le_of_ble_eq_true rfl, xMi_imp hM (fun r σ' h => ?_)⟩
      obtain ⟨er, rfl⟩ := h
      refine ⟨Or.inl ⟨2, rfl, by omega, er, rfl, rfl, rfl⟩, ⟨hl, hat, hHok, fun j I3 hj e => xJ_ok hJok ⟨hl, d, hat⟩ hj e⟩, ?_, ?_⟩
      · exact (show 7 + 6 * zQ (I, H, d, J, qc, qt, qf) ≤ 6 * zQ (I, H, d, J, qc, qt, qf) + 8 from by omega)
      · exact (show 749 + 6 * zQ (I, H, d, J, qc, qt, qf) ≤ 6 * zQ (I, H, d, J, qc, qt, qf) + 800 from by omega)
    · subst p0
      have hM := lift_xi (a_m := a_m) (a_o := a_o) (o := o) (xG_same (bx_image_vs2 l ad dC dI cy a_x (A 0) (A 1) (A 2) (A 3) (A 4) (A 5) (A 6) (A 7) (A 8) (A 9) (A 10) (A 11) (A 12) (A 13) (A 14) (A 15) (A 16) (A 17) (A 18) (A 19) (A 20) (A 21) (A 22) (A 23) (A 24) (A 25) (A 26) (A 27) (A 28) (A 29) (A 30) (A 31) (A 32) (A 33) (A 34) (A 35) (A 36) (A 37) (A 38) (A 39) (A 40) (A 41) (A 42) (A 43) (A 44) (A 45) (A 46) (A 47) (A 48) (A 49) (A 50) (A 51) (A 52) (A 53) (A 54) (A 55) (A 56) (A 57) (A 58) (A 59) (A 60) (A 61) (A 62) (A 63) (A 64) (A 65) (A 66) (A 67) (A 68) (A 69) (A 70) (A 71) (A 72) (A 73) (A 74) (A 75) sz (fi 0) (fi 1) (fi 2) (fi 3) (fi 4) (fi 5) (fi 6) (fi 7) (fl 0) (fi 8) (fi 9) (fi 10) (fi 11) (fi 12) (fa 0) (fa 1) (fi 13) (fi 14) (fi 15) (fi 16) (fi 17) (fi 18) (fi 19) (fi 20) (fa 2) (fa 3) (fa 4) (fc 0) (fa 5) (fa 6) (fa 7) (fa 8) (fc 1) (fa 9) (fa 10) (fb 0) (fc 2) (fi 21) (fi 22) (fa 11) (fc 3) (fa 12) (fc 4) (fb 1) (fc 5) (fa 13) (fc 6) (fa 14) (fc 7) (fb 2) (fc 8) (fi 23) (fa 15) (fc 9) (fa 16) (fc 10) (fb 3) (fc 11) (fi 24) (fi 25) (fi 26) (fi 27) (fi 28) (fi 29) (fi 30) (fi 31) (fi 32) (fi 33) (fl 1) (fi 34) (fi 35) (fi 36) (fi 37) (fi 38) (fi 39) (fi 40) (fa 17) (fa 18) (fa 19) (fa 20) (fa 21) (fa 22) (fa 23) (fc 12) (fa 24) (fc 13) (fb 4) (fc 14) (fa 25) (fc 15) (fa 26) (fc 16) (fb 5) (fc 17) (fa 27) (fa 28) (fa 29) (fa 30) (fp 0) (fp 1) im (fi 41) (fi 42) (fi 43) (fi 44) (fi 45) (fi 46) (fi 47) (fi 48) (fa 31) (fa 32) a_i a_l a_w a_p a_t a_s a_q f0 f1 f2 f3 f4 f5 f6 f7 f8 f9 f10 f11 hS hR h0 h1 hI2 j0 o0) (w_out2 _ _ _ _)) hm
      refine ⟨_, _, _, Nat.le_of_ble_eq_true rfl, Nat.le_of_ble_eq_true rfl, rfl, rfl, Nat.le_of_ble_eq_true rfl, Nat.le_of_ble_eq_true rfl, xMi_imp hM (fun r σ' h => ?_)⟩
      obtain ⟨er, rfl⟩ := h
      refine ⟨Or.inl ⟨2, rfl, by omega, er, rfl, rfl, rfl⟩, ⟨hl, hat, hHok, fun j I3 hj e => xJ_ok hJok ⟨hl, d, hat⟩ hj e⟩, ?_, ?_⟩
      · exact (show 0 + 6 * zQ (I, H, d, J, qc, qt, qf) ≤ 6 * zQ (I, H, d, J, qc, qt, qf) + 8 from by omega)
      · exact (show 0 + 6 * zQ (I, H, d, J, qc, qt, qf) ≤ 6 * zQ (I, H, d, J, qc, qt, qf) + 800 from by omega)
