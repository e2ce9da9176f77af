def u_mb (H : List ZL) (qc : Nat × Nat) : Nat := match H.getLast? with
  | none => 0
  | some L => 6 * (z_sum (l_wcr L qc) - z_sum qc)
theorem z_fqs_ok {L : ZL} {fs : Int32} {q : Nat × Nat} (hl : l_lim L) (h1 : z_pw q.1) (h2 : z_pw q.2) : (z_pw (z_fqs L fs q).1 ∧ z_pw (z_fqs L fs q).2) ∧ z_sum q ≤ z_sum (z_fqs L fs q) := by
  unfold z_fqs
  split
  · exact z_fq_ok hl.2.2.2.2.2.2 h1 h2
  · exact ⟨⟨h1, h2⟩, Nat.le_refl _⟩
