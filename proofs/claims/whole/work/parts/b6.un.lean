/-! each call has one answer -/
theorem z_front_len {w p : Nat → Nat} {M : Nat} : ∀ {r k : Nat} {F G : List ZT}, F.length ≤ M → z_front w p M r k F = some G → G.length ≤ M
  | 0, _, F, G, h, e => by
    have e' : some F = some G := e
    cases e'
    exact h
  | r + 1, k, F, G, h, e => by
    rw [z_front] at e
    split at e
    · cases e
    · next hlt => exact z_front_len (by omega) e
theorem z_room_un {L L1 L2 : ZL} {v : Int32} (h1 : z_room L v L1) (h2 : z_room L v L2) : L1 = L2 := by
  obtain ⟨m, e1, a1, -, rfl⟩ := h1
  obtain ⟨n, e2, a2, -, rfl⟩ := h2
  have e : m = n := (nI_eq (by omega) (by omega)).mp (e1.symm.trans e2)
  rw [e]
theorem z_most_un {L L1 L2 : ZL} {v : Int32} (h1 : z_most L v L1) (h2 : z_most L v L2) : L1 = L2 := by
  obtain ⟨m, e1, -, a1, -, rfl⟩ := h1
  obtain ⟨n, e2, -, a2, -, rfl⟩ := h2
  have e : m = n := (nI_eq (by omega) (by omega)).mp (e1.symm.trans e2)
  rw [e]
theorem z_add_un {L L1 L2 : ZL} {v w : Int32} (h1 : z_add L v w L1) (h2 : z_add L v w L2) : L1 = L2 := by
  obtain ⟨a, b, e1, f1, a1, b1, -, -, -, rfl⟩ := h1
  obtain ⟨a', b', e2, f2, a2, b2, -, -, -, rfl⟩ := h2
  have e : a = a' := (nI_eq (by omega) (by omega)).mp (e1.symm.trans e2)
  have f : b = b' := (nI_eq (by omega) (by omega)).mp (f1.symm.trans f2)
  rw [e, f]
theorem z_drop_un {L L1 L2 : ZL} {v : Int32} (hl : L.1 ≤ 60) (h1 : z_drop L v L1) (h2 : z_drop L v L2) : L1 = L2 := by
  obtain ⟨m, e1, a1, rfl⟩ := h1
  obtain ⟨n, e2, a2, rfl⟩ := h2
  have e : m = n := (nI_eq (by omega) (by omega)).mp (e1.symm.trans e2)
  rw [e]
theorem T_type_un {I I1 I2 : ZI} {n : Nat} {r1 r2 : Int32} (h1 : T_type I n r1 I1) (h2 : T_type I n r2 I2) : r1 = r2 ∧ I1 = I2 := by
  rcases h1 with ⟨a, e1, f1⟩ | ⟨a, e1, f1⟩ <;> rcases h2 with ⟨b, e2, f2⟩ | ⟨b, e2, f2⟩
  · exact ⟨e1.trans e2.symm, f1.trans f2.symm⟩
  · exact absurd a b
  · exact absurd b a
  · exact ⟨e1.trans e2.symm, f1.trans f2.symm⟩
theorem T_read_un {I I1 I2 : ZI} {H H1 H2 : List ZL} {r1 r2 : Int32} (h1 : T_read I H r1 I1 H1) (h2 : T_read I H r2 I2 H2) : r1 = r2 ∧ I1 = I2 ∧ H1 = H2 := by
  rcases h1 with ⟨a, e1, f1, g1⟩ | ⟨a, e1, f1, g1⟩ <;> rcases h2 with ⟨b, e2, f2, g2⟩ | ⟨b, e2, f2, g2⟩
  · exact ⟨e1.trans e2.symm, f1.trans f2.symm, g1.trans g2.symm⟩
  · exact absurd a b
  · exact absurd b a
  · exact ⟨e1.trans e2.symm, f1.trans f2.symm, g1.trans g2.symm⟩
theorem T_room_un {I I1 I2 : ZI} {H H1 H2 : List ZL} {v r1 r2 : Int32} (h1 : T_room I H v r1 I1 H1) (h2 : T_room I H v r2 I2 H2) : r1 = r2 ∧ I1 = I2 ∧ H1 = H2 := by
  rcases h1 with ⟨L1, z1, e1, f1, g1⟩ | ⟨n1, e1, f1, g1⟩ <;> rcases h2 with ⟨L2, z2, e2, f2, g2⟩ | ⟨n2, e2, f2, g2⟩
  · have e := z_room_un z1 z2
    subst e
    exact ⟨e1.trans e2.symm, f1.trans f2.symm, g1.trans g2.symm⟩
  · exact absurd ⟨L1, z1⟩ n2
  · exact absurd ⟨L2, z2⟩ n1
  · exact ⟨e1.trans e2.symm, f1.trans f2.symm, g1.trans g2.symm⟩
theorem T_most_un {I I1 I2 : ZI} {H H1 H2 : List ZL} {v r1 r2 : Int32} (h1 : T_most I H v r1 I1 H1) (h2 : T_most I H v r2 I2 H2) : r1 = r2 ∧ I1 = I2 ∧ H1 = H2 := by
  rcases h1 with ⟨L1, z1, e1, f1, g1⟩ | ⟨n1, e1, f1, g1⟩ <;> rcases h2 with ⟨L2, z2, e2, f2, g2⟩ | ⟨n2, e2, f2, g2⟩
  · have e := z_most_un z1 z2
    subst e
    exact ⟨e1.trans e2.symm, f1.trans f2.symm, g1.trans g2.symm⟩
  · exact absurd ⟨L1, z1⟩ n2
  · exact absurd ⟨L2, z2⟩ n1
  · exact ⟨e1.trans e2.symm, f1.trans f2.symm, g1.trans g2.symm⟩
theorem T_add_un {I I1 I2 : ZI} {H H1 H2 : List ZL} {v w r1 r2 : Int32} (h1 : T_add I H v w r1 I1 H1) (h2 : T_add I H v w r2 I2 H2) : r1 = r2 ∧ I1 = I2 ∧ H1 = H2 := by
  rcases h1 with ⟨L1, z1, e1, f1, g1⟩ | ⟨n1, e1, f1, g1⟩ <;> rcases h2 with ⟨L2, z2, e2, f2, g2⟩ | ⟨n2, e2, f2, g2⟩
  · have e := z_add_un z1 z2
    subst e
    exact ⟨e1.trans e2.symm, f1.trans f2.symm, g1.trans g2.symm⟩
  · exact absurd ⟨L1, z1⟩ n2
  · exact absurd ⟨L2, z2⟩ n1
  · exact ⟨e1.trans e2.symm, f1.trans f2.symm, g1.trans g2.symm⟩
theorem T_drop_un {I I1 I2 : ZI} {H H1 H2 : List ZL} {v r1 r2 : Int32} (hl : I.1.1 ≤ 60) (h1 : T_drop I H v r1 I1 H1) (h2 : T_drop I H v r2 I2 H2) : r1 = r2 ∧ I1 = I2 ∧ H1 = H2 := by
  rcases h1 with ⟨L1, z1, e1, f1, g1⟩ | ⟨n1, e1, f1, g1⟩ <;> rcases h2 with ⟨L2, z2, e2, f2, g2⟩ | ⟨n2, e2, f2, g2⟩
  · have e := z_drop_un hl z1 z2
    subst e
    exact ⟨e1.trans e2.symm, f1.trans f2.symm, g1.trans g2.symm⟩
  · exact absurd ⟨L1, z1⟩ n2
  · exact absurd ⟨L2, z2⟩ n1
  · exact ⟨e1.trans e2.symm, f1.trans f2.symm, g1.trans g2.symm⟩
theorem T_step_un {I I1 I2 : ZI} {H H1 H2 : List ZL} {d : ZC} {r1 r2 : Int32} (h1 : T_step I H d r1 I1 H1) (h2 : T_step I H d r2 I2 H2) : r1 = r2 ∧ I1 = I2 ∧ H1 = H2 := by
  rcases h1 with ⟨d1, p1, s1, e1, f1, g1⟩ | ⟨c1, f1, g1⟩ <;> rcases h2 with ⟨d2, p2, s2, e2, f2, g2⟩ | ⟨c2, f2, g2⟩
  · rw [s1] at s2
    cases s2
    exact ⟨e1.trans e2.symm, f1.trans f2.symm, g1.trans g2.symm⟩
  · rcases c2 with ⟨p2, -⟩ | ⟨⟨-, s2⟩, -⟩
    · exact absurd p2 p1
    · rw [s1] at s2
      cases s2
  · rcases c1 with ⟨p1, -⟩ | ⟨⟨-, s1⟩, -⟩
    · exact absurd p1 p2
    · rw [s1] at s2
      cases s2
  · refine ⟨?_, f1.trans f2.symm, g1.trans g2.symm⟩
    rcases c1 with ⟨p1, e1⟩ | ⟨⟨p1, -⟩, e1⟩ <;> rcases c2 with ⟨p2, e2⟩ | ⟨⟨p2, -⟩, e2⟩
    · exact e1.trans e2.symm
    · exact absurd p1 p2
    · exact absurd p2 p1
    · exact e1.trans e2.symm
theorem T_solve_un {I I1 I2 : ZI} {H H1 H2 : List ZL} {d : ZC} {r1 r2 : Int32} (h1 : T_solve I H d r1 I1 H1) (h2 : T_solve I H d r2 I2 H2) : r1 = r2 ∧ I1 = I2 ∧ H1 = H2 := by
  rcases h1 with ⟨a, e1, f1, g1⟩ | ⟨a, e1, f1, g1⟩ <;> rcases h2 with ⟨b, e2, f2, g2⟩ | ⟨b, e2, f2, g2⟩
  · exact ⟨e1.trans e2.symm, f1.trans f2.symm, g1.trans g2.symm⟩
  · exact absurd b a
  · exact absurd a b
  · exact ⟨e1.trans e2.symm, f1.trans f2.symm, g1.trans g2.symm⟩
theorem T_undo_un {I I1 I2 : ZI} {H H1 H2 : List ZL} {r1 r2 : Int32} (h1 : T_undo I H r1 I1 H1) (h2 : T_undo I H r2 I2 H2) : r1 = r2 ∧ I1 = I2 ∧ H1 = H2 := by
  have no : ∀ (G : List ZL) (L : ZL), H = G ++ [L] → ¬ H = [] := fun G L e z => by
    rw [z] at e
    have := congrArg List.length e
    rw [List.length_append] at this
    exact absurd this (show ¬ 0 = G.length + 1 by omega)
  rcases h1 with ⟨G1, L1, a1, e1, f1, g1⟩ | ⟨a1, e1, f1, g1⟩ <;> rcases h2 with ⟨G2, L2, a2, e2, f2, g2⟩ | ⟨a2, e2, f2, g2⟩
  · obtain ⟨z1, z2⟩ := List.append_inj' (a1.symm.trans a2) rfl
    cases z1
    cases z2
    exact ⟨e1.trans e2.symm, f1.trans f2.symm, g1.trans g2.symm⟩
  · exact absurd a2 (no _ _ a1)
  · exact absurd a1 (no _ _ a2)
  · exact ⟨e1.trans e2.symm, f1.trans f2.symm, g1.trans g2.symm⟩
theorem V_ahead_un {L : ZL} {d : ZC} {v a b : Int32} (h1 : V_ahead L d v a) (h2 : V_ahead L d v b) : a = b := by
  by_cases z : v = 0
  · exact (h1.1 z).trans (h2.1 z).symm
  · exact (h1.2 z).trans (h2.2 z).symm
def T_image (I : ZI) (H : List ZL) (J : Nat → Option ZI) (v1 r : Int32) (I' : ZI) (H' : List ZL) (J' : Nat → Option ZI) : Prop := (∃ k, v1 = nI k ∧ k < 3 ∧ r = 1 ∧ I' = I ∧ H' = H ∧ J' = (fun j => if j = k then some I else J j)) ∨ ((¬ ∃ k, v1 = nI k ∧ k < 3) ∧ r = 0 ∧ I' = I ∧ H' = H ∧ J' = J)
def T_again (I : ZI) (H : List ZL) (J : Nat → Option ZI) (v1 r : Int32) (I' : ZI) (H' : List ZL) : Prop := (∃ k I2, v1 = nI k ∧ k < 3 ∧ J k = some I2 ∧ r = 1 ∧ I' = I2 ∧ H' = []) ∨ ((¬ ∃ k I2, v1 = nI k ∧ k < 3 ∧ J k = some I2) ∧ r = 0 ∧ I' = I ∧ H' = H)
theorem T_image_un {I I1 I2 : ZI} {H H1 H2 : List ZL} {J J1 J2 : Nat → Option ZI} {v r1 r2 : Int32} (h1 : T_image I H J v r1 I1 H1 J1) (h2 : T_image I H J v r2 I2 H2 J2) : r1 = r2 ∧ I1 = I2 ∧ H1 = H2 ∧ J1 = J2 := by
  rcases h1 with ⟨k1, a1, b1, e1, f1, g1, j1⟩ | ⟨a1, e1, f1, g1, j1⟩ <;> rcases h2 with ⟨k2, a2, b2, e2, f2, g2, j2⟩ | ⟨a2, e2, f2, g2, j2⟩
  · have e : k1 = k2 := (nI_eq (by omega) (by omega)).mp (a1.symm.trans a2)
    subst e
    exact ⟨e1.trans e2.symm, f1.trans f2.symm, g1.trans g2.symm, j1.trans j2.symm⟩
  · exact absurd ⟨k1, a1, b1⟩ a2
  · exact absurd ⟨k2, a2, b2⟩ a1
  · exact ⟨e1.trans e2.symm, f1.trans f2.symm, g1.trans g2.symm, j1.trans j2.symm⟩
theorem T_again_un {I I1 I2 : ZI} {H H1 H2 : List ZL} {J : Nat → Option ZI} {v r1 r2 : Int32} (h1 : T_again I H J v r1 I1 H1) (h2 : T_again I H J v r2 I2 H2) : r1 = r2 ∧ I1 = I2 ∧ H1 = H2 := by
  rcases h1 with ⟨k1, Ia, a1, b1, c1, e1, f1, g1⟩ | ⟨a1, e1, f1, g1⟩ <;> rcases h2 with ⟨k2, Ib, a2, b2, c2, e2, f2, g2⟩ | ⟨a2, e2, f2, g2⟩
  · have e : k1 = k2 := (nI_eq (by omega) (by omega)).mp (a1.symm.trans a2)
    subst e
    rw [c1] at c2
    cases c2
    exact ⟨e1.trans e2.symm, f1.trans f2.symm, g1.trans g2.symm⟩
  · exact absurd ⟨k1, Ia, a1, b1, c1⟩ a2
  · exact absurd ⟨k2, Ib, a2, b2, c2⟩ a1
  · exact ⟨e1.trans e2.symm, f1.trans f2.symm, g1.trans g2.symm⟩
theorem z_S_len {σ : ZS} (h : z_S σ) : σ.2.2.1.2.2.2.1.length ≤ 1000 := Nat.le_trans (h.2.1.ok h.1).1.2.2.2.1 h.1.2.2.2.2.2.2
def C_room (I : ZI) (H : List ZL) (d : ZC) (J : Nat → Option ZI) (v1 : Int32) (r : Int32) (I' : ZI) (H' : List ZL) (J' : Nat → Option ZI) : Prop := T_room I H v1 r I' H' ∧ J' = J
theorem C_room_un {I : ZI} {H : List ZL} {d : ZC} {J : Nat → Option ZI} {qc qt qf : Nat × Nat} {v1 : Int32} {r1 r2 : Int32} {I1 I2 : ZI} {H1 H2 : List ZL} {J1 J2 : Nat → Option ZI} (hS : z_S (I, H, d, J, qc, qt, qf)) (h1 : C_room I H d J v1 r1 I1 H1 J1) (h2 : C_room I H d J v1 r2 I2 H2 J2) : r1 = r2 ∧ I1 = I2 ∧ H1 = H2 ∧ J1 = J2 := by
  obtain ⟨a, b, c⟩ := T_room_un h1.1 h2.1
  exact ⟨a, b, c, h1.2.trans h2.2.symm⟩
def C_most (I : ZI) (H : List ZL) (d : ZC) (J : Nat → Option ZI) (v1 : Int32) (r : Int32) (I' : ZI) (H' : List ZL) (J' : Nat → Option ZI) : Prop := T_most I H v1 r I' H' ∧ J' = J
theorem C_most_un {I : ZI} {H : List ZL} {d : ZC} {J : Nat → Option ZI} {qc qt qf : Nat × Nat} {v1 : Int32} {r1 r2 : Int32} {I1 I2 : ZI} {H1 H2 : List ZL} {J1 J2 : Nat → Option ZI} (hS : z_S (I, H, d, J, qc, qt, qf)) (h1 : C_most I H d J v1 r1 I1 H1 J1) (h2 : C_most I H d J v1 r2 I2 H2 J2) : r1 = r2 ∧ I1 = I2 ∧ H1 = H2 ∧ J1 = J2 := by
  obtain ⟨a, b, c⟩ := T_most_un h1.1 h2.1
  exact ⟨a, b, c, h1.2.trans h2.2.symm⟩
def C_add (I : ZI) (H : List ZL) (d : ZC) (J : Nat → Option ZI) (v1 : Int32) (v2 : Int32) (r : Int32) (I' : ZI) (H' : List ZL) (J' : Nat → Option ZI) : Prop := T_add I H v1 v2 r I' H' ∧ J' = J
theorem C_add_un {I : ZI} {H : List ZL} {d : ZC} {J : Nat → Option ZI} {qc qt qf : Nat × Nat} {v1 : Int32} {v2 : Int32} {r1 r2 : Int32} {I1 I2 : ZI} {H1 H2 : List ZL} {J1 J2 : Nat → Option ZI} (hS : z_S (I, H, d, J, qc, qt, qf)) (h1 : C_add I H d J v1 v2 r1 I1 H1 J1) (h2 : C_add I H d J v1 v2 r2 I2 H2 J2) : r1 = r2 ∧ I1 = I2 ∧ H1 = H2 ∧ J1 = J2 := by
  obtain ⟨a, b, c⟩ := T_add_un h1.1 h2.1
  exact ⟨a, b, c, h1.2.trans h2.2.symm⟩
def C_drop (I : ZI) (H : List ZL) (d : ZC) (J : Nat → Option ZI) (v1 : Int32) (r : Int32) (I' : ZI) (H' : List ZL) (J' : Nat → Option ZI) : Prop := T_drop I H v1 r I' H' ∧ J' = J
theorem C_drop_un {I : ZI} {H : List ZL} {d : ZC} {J : Nat → Option ZI} {qc qt qf : Nat × Nat} {v1 : Int32} {r1 r2 : Int32} {I1 I2 : ZI} {H1 H2 : List ZL} {J1 J2 : Nat → Option ZI} (hS : z_S (I, H, d, J, qc, qt, qf)) (h1 : C_drop I H d J v1 r1 I1 H1 J1) (h2 : C_drop I H d J v1 r2 I2 H2 J2) : r1 = r2 ∧ I1 = I2 ∧ H1 = H2 ∧ J1 = J2 := by
  obtain ⟨a, b, c⟩ := T_drop_un hS.1.1 h1.1 h2.1
  exact ⟨a, b, c, h1.2.trans h2.2.symm⟩
def C_read (I : ZI) (H : List ZL) (d : ZC) (J : Nat → Option ZI) (r : Int32) (I' : ZI) (H' : List ZL) (J' : Nat → Option ZI) : Prop := T_read I H r I' H' ∧ J' = J
theorem C_read_un {I : ZI} {H : List ZL} {d : ZC} {J : Nat → Option ZI} {qc qt qf : Nat × Nat} {r1 r2 : Int32} {I1 I2 : ZI} {H1 H2 : List ZL} {J1 J2 : Nat → Option ZI} (hS : z_S (I, H, d, J, qc, qt, qf)) (h1 : C_read I H d J  r1 I1 H1 J1) (h2 : C_read I H d J  r2 I2 H2 J2) : r1 = r2 ∧ I1 = I2 ∧ H1 = H2 ∧ J1 = J2 := by
  obtain ⟨a, b, c⟩ := T_read_un h1.1 h2.1
  exact ⟨a, b, c, h1.2.trans h2.2.symm⟩
def C_step (I : ZI) (H : List ZL) (d : ZC) (J : Nat → Option ZI) (r : Int32) (I' : ZI) (H' : List ZL) (J' : Nat → Option ZI) : Prop := T_step I H d r I' H' ∧ J' = J
theorem C_step_un {I : ZI} {H : List ZL} {d : ZC} {J : Nat → Option ZI} {qc qt qf : Nat × Nat} {r1 r2 : Int32} {I1 I2 : ZI} {H1 H2 : List ZL} {J1 J2 : Nat → Option ZI} (hS : z_S (I, H, d, J, qc, qt, qf)) (h1 : C_step I H d J  r1 I1 H1 J1) (h2 : C_step I H d J  r2 I2 H2 J2) : r1 = r2 ∧ I1 = I2 ∧ H1 = H2 ∧ J1 = J2 := by
  obtain ⟨a, b, c⟩ := T_step_un h1.1 h2.1
  exact ⟨a, b, c, h1.2.trans h2.2.symm⟩
def C_solve (I : ZI) (H : List ZL) (d : ZC) (J : Nat → Option ZI) (r : Int32) (I' : ZI) (H' : List ZL) (J' : Nat → Option ZI) : Prop := T_solve I H d r I' H' ∧ J' = J
theorem C_solve_un {I : ZI} {H : List ZL} {d : ZC} {J : Nat → Option ZI} {qc qt qf : Nat × Nat} {r1 r2 : Int32} {I1 I2 : ZI} {H1 H2 : List ZL} {J1 J2 : Nat → Option ZI} (hS : z_S (I, H, d, J, qc, qt, qf)) (h1 : C_solve I H d J  r1 I1 H1 J1) (h2 : C_solve I H d J  r2 I2 H2 J2) : r1 = r2 ∧ I1 = I2 ∧ H1 = H2 ∧ J1 = J2 := by
  obtain ⟨a, b, c⟩ := T_solve_un h1.1 h2.1
  exact ⟨a, b, c, h1.2.trans h2.2.symm⟩
def C_undo (I : ZI) (H : List ZL) (d : ZC) (J : Nat → Option ZI) (r : Int32) (I' : ZI) (H' : List ZL) (J' : Nat → Option ZI) : Prop := T_undo I H r I' H' ∧ J' = J
theorem C_undo_un {I : ZI} {H : List ZL} {d : ZC} {J : Nat → Option ZI} {qc qt qf : Nat × Nat} {r1 r2 : Int32} {I1 I2 : ZI} {H1 H2 : List ZL} {J1 J2 : Nat → Option ZI} (hS : z_S (I, H, d, J, qc, qt, qf)) (h1 : C_undo I H d J  r1 I1 H1 J1) (h2 : C_undo I H d J  r2 I2 H2 J2) : r1 = r2 ∧ I1 = I2 ∧ H1 = H2 ∧ J1 = J2 := by
  obtain ⟨a, b, c⟩ := T_undo_un h1.1 h2.1
  exact ⟨a, b, c, h1.2.trans h2.2.symm⟩
def C_again (I : ZI) (H : List ZL) (d : ZC) (J : Nat → Option ZI) (v1 : Int32) (r : Int32) (I' : ZI) (H' : List ZL) (J' : Nat → Option ZI) : Prop := T_again I H J v1 r I' H' ∧ J' = J
theorem C_again_un {I : ZI} {H : List ZL} {d : ZC} {J : Nat → Option ZI} {qc qt qf : Nat × Nat} {v1 : Int32} {r1 r2 : Int32} {I1 I2 : ZI} {H1 H2 : List ZL} {J1 J2 : Nat → Option ZI} (hS : z_S (I, H, d, J, qc, qt, qf)) (h1 : C_again I H d J v1 r1 I1 H1 J1) (h2 : C_again I H d J v1 r2 I2 H2 J2) : r1 = r2 ∧ I1 = I2 ∧ H1 = H2 ∧ J1 = J2 := by
  obtain ⟨a, b, c⟩ := T_again_un h1.1 h2.1
  exact ⟨a, b, c, h1.2.trans h2.2.symm⟩
def C_image (I : ZI) (H : List ZL) (d : ZC) (J : Nat → Option ZI) (v1 : Int32) (r : Int32) (I' : ZI) (H' : List ZL) (J' : Nat → Option ZI) : Prop := T_image I H J v1 r I' H' J'
theorem C_image_un {I : ZI} {H : List ZL} {d : ZC} {J : Nat → Option ZI} {qc qt qf : Nat × Nat} {v1 : Int32} {r1 r2 : Int32} {I1 I2 : ZI} {H1 H2 : List ZL} {J1 J2 : Nat → Option ZI} (hS : z_S (I, H, d, J, qc, qt, qf)) (h1 : C_image I H d J v1 r1 I1 H1 J1) (h2 : C_image I H d J v1 r2 I2 H2 J2) : r1 = r2 ∧ I1 = I2 ∧ H1 = H2 ∧ J1 = J2 := by
  exact T_image_un h1 h2
def C_type (I : ZI) (H : List ZL) (d : ZC) (J : Nat → Option ZI) (n : Nat) (r : Int32) (I' : ZI) (H' : List ZL) (J' : Nat → Option ZI) : Prop := T_type I n r I' ∧ H' = H ∧ J' = J
theorem C_type_un {I : ZI} {H : List ZL} {d : ZC} {J : Nat → Option ZI} {qc qt qf : Nat × Nat} {n : Nat} {r1 r2 : Int32} {I1 I2 : ZI} {H1 H2 : List ZL} {J1 J2 : Nat → Option ZI} (hS : z_S (I, H, d, J, qc, qt, qf)) (h1 : C_type I H d J n r1 I1 H1 J1) (h2 : C_type I H d J n r2 I2 H2 J2) : r1 = r2 ∧ I1 = I2 ∧ H1 = H2 ∧ J1 = J2 := by
  obtain ⟨a, b⟩ := T_type_un h1.1 h2.1
  exact ⟨a, b, h1.2.1.trans h2.2.1.symm, h1.2.2.trans h2.2.2.symm⟩
def C_shelve (I : ZI) (H : List ZL) (d : ZC) (J : Nat → Option ZI) (v1 : Int32) (v2 : Int32) (v3 : Int32) (v4 : Int32) (r : Int32) (I' : ZI) (H' : List ZL) (J' : Nat → Option ZI) : Prop := (∃ S', z_shs I.1 d I.2.2.2 v1 v2 v3 v4 r S' ∧ I' = (I.1, I.2.1, I.2.2.1, S') ∧ H' = H) ∧ J' = J
theorem C_shelve_un {I : ZI} {H : List ZL} {d : ZC} {J : Nat → Option ZI} {qc qt qf : Nat × Nat} {v1 : Int32} {v2 : Int32} {v3 : Int32} {v4 : Int32} {r1 r2 : Int32} {I1 I2 : ZI} {H1 H2 : List ZL} {J1 J2 : Nat → Option ZI} (hS : z_S (I, H, d, J, qc, qt, qf)) (h1 : C_shelve I H d J v1 v2 v3 v4 r1 I1 H1 J1) (h2 : C_shelve I H d J v1 v2 v3 v4 r2 I2 H2 J2) : r1 = r2 ∧ I1 = I2 ∧ H1 = H2 ∧ J1 = J2 := by
  obtain ⟨⟨S1, a1, b1, c1⟩, j1⟩ := h1
  obtain ⟨⟨S2, a2, b2, c2⟩, j2⟩ := h2
  obtain ⟨a, b⟩ := z_shs_un hS.1.1 (z_S_len hS) a1 a2
  subst b
  exact ⟨a, b1.trans b2.symm, c1.trans c2.symm, j1.trans j2.symm⟩
def C_fault (I : ZI) (H : List ZL) (d : ZC) (J : Nat → Option ZI) (v1 : Int32) (r : Int32) (I' : ZI) (H' : List ZL) (J' : Nat → Option ZI) : Prop := r = (if v1 = 0 then I.2.2.1.1 else I.2.2.1.2) ∧ I' = I ∧ H' = H ∧ J' = J
theorem C_fault_un {I : ZI} {H : List ZL} {d : ZC} {J : Nat → Option ZI} {qc qt qf : Nat × Nat} {v1 : Int32} {r1 r2 : Int32} {I1 I2 : ZI} {H1 H2 : List ZL} {J1 J2 : Nat → Option ZI} (hS : z_S (I, H, d, J, qc, qt, qf)) (h1 : C_fault I H d J v1 r1 I1 H1 J1) (h2 : C_fault I H d J v1 r2 I2 H2 J2) : r1 = r2 ∧ I1 = I2 ∧ H1 = H2 ∧ J1 = J2 := by
  exact ⟨h1.1.trans h2.1.symm, h1.2.1.trans h2.2.1.symm, h1.2.2.1.trans h2.2.2.1.symm, h1.2.2.2.trans h2.2.2.2.symm⟩
def C_count (I : ZI) (H : List ZL) (d : ZC) (J : Nat → Option ZI) (v1 : Int32) (r : Int32) (I' : ZI) (H' : List ZL) (J' : Nat → Option ZI) : Prop := r = z_count I.1 d (nI H.length) (nI I.2.1.1) v1 ∧ I' = I ∧ H' = H ∧ J' = J
theorem C_count_un {I : ZI} {H : List ZL} {d : ZC} {J : Nat → Option ZI} {qc qt qf : Nat × Nat} {v1 : Int32} {r1 r2 : Int32} {I1 I2 : ZI} {H1 H2 : List ZL} {J1 J2 : Nat → Option ZI} (hS : z_S (I, H, d, J, qc, qt, qf)) (h1 : C_count I H d J v1 r1 I1 H1 J1) (h2 : C_count I H d J v1 r2 I2 H2 J2) : r1 = r2 ∧ I1 = I2 ∧ H1 = H2 ∧ J1 = J2 := by
  exact ⟨h1.1.trans h2.1.symm, h1.2.1.trans h2.2.1.symm, h1.2.2.1.trans h2.2.2.1.symm, h1.2.2.2.trans h2.2.2.2.symm⟩
def C_reduced (I : ZI) (H : List ZL) (d : ZC) (J : Nat → Option ZI) (v1 : Int32) (r : Int64) (I' : ZI) (H' : List ZL) (J' : Nat → Option ZI) : Prop := z_reduced I.1 v1 r ∧ I' = I ∧ H' = H ∧ J' = J
theorem C_reduced_un {I : ZI} {H : List ZL} {d : ZC} {J : Nat → Option ZI} {qc qt qf : Nat × Nat} {v1 : Int32} {r1 r2 : Int64} {I1 I2 : ZI} {H1 H2 : List ZL} {J1 J2 : Nat → Option ZI} (hS : z_S (I, H, d, J, qc, qt, qf)) (h1 : C_reduced I H d J v1 r1 I1 H1 J1) (h2 : C_reduced I H d J v1 r2 I2 H2 J2) : r1 = r2 ∧ I1 = I2 ∧ H1 = H2 ∧ J1 = J2 := by
  exact ⟨z_reduced_un hS.1.1 h1.1 h2.1, h1.2.1.trans h2.2.1.symm, h1.2.2.1.trans h2.2.2.1.symm, h1.2.2.2.trans h2.2.2.2.symm⟩
def C_order (I : ZI) (H : List ZL) (d : ZC) (J : Nat → Option ZI) (v1 : Int32) (r : Int32) (I' : ZI) (H' : List ZL) (J' : Nat → Option ZI) : Prop := z_order I.1 v1 r ∧ I' = I ∧ H' = H ∧ J' = J
theorem C_order_un {I : ZI} {H : List ZL} {d : ZC} {J : Nat → Option ZI} {qc qt qf : Nat × Nat} {v1 : Int32} {r1 r2 : Int32} {I1 I2 : ZI} {H1 H2 : List ZL} {J1 J2 : Nat → Option ZI} (hS : z_S (I, H, d, J, qc, qt, qf)) (h1 : C_order I H d J v1 r1 I1 H1 J1) (h2 : C_order I H d J v1 r2 I2 H2 J2) : r1 = r2 ∧ I1 = I2 ∧ H1 = H2 ∧ J1 = J2 := by
  exact ⟨z_order_un hS.1.1 h1.1 h2.1, h1.2.1.trans h2.2.1.symm, h1.2.2.1.trans h2.2.2.1.symm, h1.2.2.2.trans h2.2.2.2.symm⟩
def C_best (I : ZI) (H : List ZL) (d : ZC) (J : Nat → Option ZI) (r : Int64) (I' : ZI) (H' : List ZL) (J' : Nat → Option ZI) : Prop := r = lN d.2.2.2.2.2.2 ∧ I' = I ∧ H' = H ∧ J' = J
theorem C_best_un {I : ZI} {H : List ZL} {d : ZC} {J : Nat → Option ZI} {qc qt qf : Nat × Nat} {r1 r2 : Int64} {I1 I2 : ZI} {H1 H2 : List ZL} {J1 J2 : Nat → Option ZI} (hS : z_S (I, H, d, J, qc, qt, qf)) (h1 : C_best I H d J  r1 I1 H1 J1) (h2 : C_best I H d J  r2 I2 H2 J2) : r1 = r2 ∧ I1 = I2 ∧ H1 = H2 ∧ J1 = J2 := by
  exact ⟨h1.1.trans h2.1.symm, h1.2.1.trans h2.2.1.symm, h1.2.2.1.trans h2.2.2.1.symm, h1.2.2.2.trans h2.2.2.2.symm⟩
def C_share (I : ZI) (H : List ZL) (d : ZC) (J : Nat → Option ZI) (v1 : Int32) (r : Int32) (I' : ZI) (H' : List ZL) (J' : Nat → Option ZI) : Prop := z_share I.1 v1 r ∧ I' = I ∧ H' = H ∧ J' = J
theorem C_share_un {I : ZI} {H : List ZL} {d : ZC} {J : Nat → Option ZI} {qc qt qf : Nat × Nat} {v1 : Int32} {r1 r2 : Int32} {I1 I2 : ZI} {H1 H2 : List ZL} {J1 J2 : Nat → Option ZI} (hS : z_S (I, H, d, J, qc, qt, qf)) (h1 : C_share I H d J v1 r1 I1 H1 J1) (h2 : C_share I H d J v1 r2 I2 H2 J2) : r1 = r2 ∧ I1 = I2 ∧ H1 = H2 ∧ J1 = J2 := by
  exact ⟨z_share_un hS.1.1 h1.1 h2.1, h1.2.1.trans h2.2.1.symm, h1.2.2.1.trans h2.2.2.1.symm, h1.2.2.2.trans h2.2.2.2.symm⟩
def C_linear (I : ZI) (H : List ZL) (d : ZC) (J : Nat → Option ZI) (r : Int64) (I' : ZI) (H' : List ZL) (J' : Nat → Option ZI) : Prop := r = (l_lv I.1).toInt64 ∧ I' = I ∧ H' = H ∧ J' = J
theorem C_linear_un {I : ZI} {H : List ZL} {d : ZC} {J : Nat → Option ZI} {qc qt qf : Nat × Nat} {r1 r2 : Int64} {I1 I2 : ZI} {H1 H2 : List ZL} {J1 J2 : Nat → Option ZI} (hS : z_S (I, H, d, J, qc, qt, qf)) (h1 : C_linear I H d J  r1 I1 H1 J1) (h2 : C_linear I H d J  r2 I2 H2 J2) : r1 = r2 ∧ I1 = I2 ∧ H1 = H2 ∧ J1 = J2 := by
  exact ⟨h1.1.trans h2.1.symm, h1.2.1.trans h2.2.1.symm, h1.2.2.1.trans h2.2.2.1.symm, h1.2.2.2.trans h2.2.2.2.symm⟩
def C_part (I : ZI) (H : List ZL) (d : ZC) (J : Nat → Option ZI) (v1 : Int32) (v2 : Int32) (r : Int32) (I' : ZI) (H' : List ZL) (J' : Nat → Option ZI) : Prop := r = z_part I.1 v1 v2 ∧ I' = I ∧ H' = H ∧ J' = J
theorem C_part_un {I : ZI} {H : List ZL} {d : ZC} {J : Nat → Option ZI} {qc qt qf : Nat × Nat} {v1 : Int32} {v2 : Int32} {r1 r2 : Int32} {I1 I2 : ZI} {H1 H2 : List ZL} {J1 J2 : Nat → Option ZI} (hS : z_S (I, H, d, J, qc, qt, qf)) (h1 : C_part I H d J v1 v2 r1 I1 H1 J1) (h2 : C_part I H d J v1 v2 r2 I2 H2 J2) : r1 = r2 ∧ I1 = I2 ∧ H1 = H2 ∧ J1 = J2 := by
  exact ⟨h1.1.trans h2.1.symm, h1.2.1.trans h2.2.1.symm, h1.2.2.1.trans h2.2.2.1.symm, h1.2.2.2.trans h2.2.2.2.symm⟩
def C_greedy (I : ZI) (H : List ZL) (d : ZC) (J : Nat → Option ZI) (v1 : Int32) (r : Int64) (I' : ZI) (H' : List ZL) (J' : Nat → Option ZI) : Prop := r = z_greedy I.1 v1 ∧ I' = I ∧ H' = H ∧ J' = J
theorem C_greedy_un {I : ZI} {H : List ZL} {d : ZC} {J : Nat → Option ZI} {qc qt qf : Nat × Nat} {v1 : Int32} {r1 r2 : Int64} {I1 I2 : ZI} {H1 H2 : List ZL} {J1 J2 : Nat → Option ZI} (hS : z_S (I, H, d, J, qc, qt, qf)) (h1 : C_greedy I H d J v1 r1 I1 H1 J1) (h2 : C_greedy I H d J v1 r2 I2 H2 J2) : r1 = r2 ∧ I1 = I2 ∧ H1 = H2 ∧ J1 = J2 := by
  exact ⟨h1.1.trans h2.1.symm, h1.2.1.trans h2.2.1.symm, h1.2.2.1.trans h2.2.2.1.symm, h1.2.2.2.trans h2.2.2.2.symm⟩
def C_swap (I : ZI) (H : List ZL) (d : ZC) (J : Nat → Option ZI) (v1 : Int32) (r : Int32) (I' : ZI) (H' : List ZL) (J' : Nat → Option ZI) : Prop := r = z_swap I.1 d v1 ∧ I' = I ∧ H' = H ∧ J' = J
theorem C_swap_un {I : ZI} {H : List ZL} {d : ZC} {J : Nat → Option ZI} {qc qt qf : Nat × Nat} {v1 : Int32} {r1 r2 : Int32} {I1 I2 : ZI} {H1 H2 : List ZL} {J1 J2 : Nat → Option ZI} (hS : z_S (I, H, d, J, qc, qt, qf)) (h1 : C_swap I H d J v1 r1 I1 H1 J1) (h2 : C_swap I H d J v1 r2 I2 H2 J2) : r1 = r2 ∧ I1 = I2 ∧ H1 = H2 ∧ J1 = J2 := by
  exact ⟨h1.1.trans h2.1.symm, h1.2.1.trans h2.2.1.symm, h1.2.2.1.trans h2.2.2.1.symm, h1.2.2.2.trans h2.2.2.2.symm⟩
def C_front (I : ZI) (H : List ZL) (d : ZC) (J : Nat → Option ZI) (v1 : Int32) (v2 : Int32) (r : Int64) (I' : ZI) (H' : List ZL) (J' : Nat → Option ZI) : Prop := z_frv (l_front I.1) v1 v2 r ∧ I' = I ∧ H' = H ∧ J' = J
theorem C_front_un {I : ZI} {H : List ZL} {d : ZC} {J : Nat → Option ZI} {qc qt qf : Nat × Nat} {v1 : Int32} {v2 : Int32} {r1 r2 : Int64} {I1 I2 : ZI} {H1 H2 : List ZL} {J1 J2 : Nat → Option ZI} (hS : z_S (I, H, d, J, qc, qt, qf)) (h1 : C_front I H d J v1 v2 r1 I1 H1 J1) (h2 : C_front I H d J v1 v2 r2 I2 H2 J2) : r1 = r2 ∧ I1 = I2 ∧ H1 = H2 ∧ J1 = J2 := by
  exact ⟨z_frv_un (fun G e => Nat.le_trans (z_front_len (by have := hS.1.2.2.2.2.2.1; show 1 ≤ _; omega) e) hS.1.2.2.2.2.2.2) h1.1 h2.1, h1.2.1.trans h2.2.1.symm, h1.2.2.1.trans h2.2.2.1.symm, h1.2.2.2.trans h2.2.2.2.symm⟩
def C_other (I : ZI) (H : List ZL) (d : ZC) (J : Nat → Option ZI) (v1 : Int32) (r : Int32) (I' : ZI) (H' : List ZL) (J' : Nat → Option ZI) : Prop := z_other I.1 v1 r ∧ I' = I ∧ H' = H ∧ J' = J
theorem C_other_un {I : ZI} {H : List ZL} {d : ZC} {J : Nat → Option ZI} {qc qt qf : Nat × Nat} {v1 : Int32} {r1 r2 : Int32} {I1 I2 : ZI} {H1 H2 : List ZL} {J1 J2 : Nat → Option ZI} (hS : z_S (I, H, d, J, qc, qt, qf)) (h1 : C_other I H d J v1 r1 I1 H1 J1) (h2 : C_other I H d J v1 r2 I2 H2 J2) : r1 = r2 ∧ I1 = I2 ∧ H1 = H2 ∧ J1 = J2 := by
  exact ⟨z_other_un h1.1 h2.1, h1.2.1.trans h2.2.1.symm, h1.2.2.1.trans h2.2.2.1.symm, h1.2.2.2.trans h2.2.2.2.symm⟩
def C_without (I : ZI) (H : List ZL) (d : ZC) (J : Nat → Option ZI) (v1 : Int32) (r : Int32) (I' : ZI) (H' : List ZL) (J' : Nat → Option ZI) : Prop := z_without I.1 v1 r ∧ I' = I ∧ H' = H ∧ J' = J
theorem C_without_un {I : ZI} {H : List ZL} {d : ZC} {J : Nat → Option ZI} {qc qt qf : Nat × Nat} {v1 : Int32} {r1 r2 : Int32} {I1 I2 : ZI} {H1 H2 : List ZL} {J1 J2 : Nat → Option ZI} (hS : z_S (I, H, d, J, qc, qt, qf)) (h1 : C_without I H d J v1 r1 I1 H1 J1) (h2 : C_without I H d J v1 r2 I2 H2 J2) : r1 = r2 ∧ I1 = I2 ∧ H1 = H2 ∧ J1 = J2 := by
  exact ⟨z_without_un hS.1.1 h1.1 h2.1, h1.2.1.trans h2.2.1.symm, h1.2.2.1.trans h2.2.2.1.symm, h1.2.2.2.trans h2.2.2.2.symm⟩
def C_with (I : ZI) (H : List ZL) (d : ZC) (J : Nat → Option ZI) (v1 : Int32) (r : Int32) (I' : ZI) (H' : List ZL) (J' : Nat → Option ZI) : Prop := z_with I.1 v1 r ∧ I' = I ∧ H' = H ∧ J' = J
theorem C_with_un {I : ZI} {H : List ZL} {d : ZC} {J : Nat → Option ZI} {qc qt qf : Nat × Nat} {v1 : Int32} {r1 r2 : Int32} {I1 I2 : ZI} {H1 H2 : List ZL} {J1 J2 : Nat → Option ZI} (hS : z_S (I, H, d, J, qc, qt, qf)) (h1 : C_with I H d J v1 r1 I1 H1 J1) (h2 : C_with I H d J v1 r2 I2 H2 J2) : r1 = r2 ∧ I1 = I2 ∧ H1 = H2 ∧ J1 = J2 := by
  exact ⟨z_with_un hS.1.1 h1.1 h2.1, h1.2.1.trans h2.2.1.symm, h1.2.2.1.trans h2.2.2.1.symm, h1.2.2.2.trans h2.2.2.2.symm⟩
def C_least (I : ZI) (H : List ZL) (d : ZC) (J : Nat → Option ZI) (v1 : Int32) (r : Int32) (I' : ZI) (H' : List ZL) (J' : Nat → Option ZI) : Prop := r = (z_least I.1 v1 (16, 16)).1 ∧ I' = I ∧ H' = H ∧ J' = J
theorem C_least_un {I : ZI} {H : List ZL} {d : ZC} {J : Nat → Option ZI} {qc qt qf : Nat × Nat} {v1 : Int32} {r1 r2 : Int32} {I1 I2 : ZI} {H1 H2 : List ZL} {J1 J2 : Nat → Option ZI} (hS : z_S (I, H, d, J, qc, qt, qf)) (h1 : C_least I H d J v1 r1 I1 H1 J1) (h2 : C_least I H d J v1 r2 I2 H2 J2) : r1 = r2 ∧ I1 = I2 ∧ H1 = H2 ∧ J1 = J2 := by
  exact ⟨h1.1.trans h2.1.symm, h1.2.1.trans h2.2.1.symm, h1.2.2.1.trans h2.2.2.1.symm, h1.2.2.2.trans h2.2.2.2.symm⟩
def C_ahead (I : ZI) (H : List ZL) (d : ZC) (J : Nat → Option ZI) (v1 : Int32) (r : Int32) (I' : ZI) (H' : List ZL) (J' : Nat → Option ZI) : Prop := V_ahead I.1 d v1 r ∧ I' = I ∧ H' = H ∧ J' = J
theorem C_ahead_un {I : ZI} {H : List ZL} {d : ZC} {J : Nat → Option ZI} {qc qt qf : Nat × Nat} {v1 : Int32} {r1 r2 : Int32} {I1 I2 : ZI} {H1 H2 : List ZL} {J1 J2 : Nat → Option ZI} (hS : z_S (I, H, d, J, qc, qt, qf)) (h1 : C_ahead I H d J v1 r1 I1 H1 J1) (h2 : C_ahead I H d J v1 r2 I2 H2 J2) : r1 = r2 ∧ I1 = I2 ∧ H1 = H2 ∧ J1 = J2 := by
  exact ⟨V_ahead_un h1.1 h2.1, h1.2.1.trans h2.2.1.symm, h1.2.2.1.trans h2.2.2.1.symm, h1.2.2.2.trans h2.2.2.2.symm⟩
def C_shelved (I : ZI) (H : List ZL) (d : ZC) (J : Nat → Option ZI) (v1 : Int32) (v2 : Int32) (v3 : Int32) (r : Int32) (I' : ZI) (H' : List ZL) (J' : Nat → Option ZI) : Prop := z_shd I.2.2.2 v1 v2 v3 r ∧ I' = I ∧ H' = H ∧ J' = J
theorem C_shelved_un {I : ZI} {H : List ZL} {d : ZC} {J : Nat → Option ZI} {qc qt qf : Nat × Nat} {v1 : Int32} {v2 : Int32} {v3 : Int32} {r1 r2 : Int32} {I1 I2 : ZI} {H1 H2 : List ZL} {J1 J2 : Nat → Option ZI} (hS : z_S (I, H, d, J, qc, qt, qf)) (h1 : C_shelved I H d J v1 v2 v3 r1 I1 H1 J1) (h2 : C_shelved I H d J v1 v2 v3 r2 I2 H2 J2) : r1 = r2 ∧ I1 = I2 ∧ H1 = H2 ∧ J1 = J2 := by
  exact ⟨z_shd_un h1.1 h2.1, h1.2.1.trans h2.2.1.symm, h1.2.2.1.trans h2.2.2.1.symm, h1.2.2.2.trans h2.2.2.2.symm⟩
