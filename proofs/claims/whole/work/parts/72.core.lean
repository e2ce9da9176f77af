/-! the core, step by step -/
/-- from, the place behind to, steps made, sets, the best -/
abbrev ZC : Type := Nat × Nat × Nat × List ZT × ZT
def z_shR (w p : Nat → Nat) (k : Nat) (s : ZT) : ZT := (s.1 + w k, s.2.1 + p k, s.2.2 + 2 ^ k)
def z_shL (w p : Nat → Nat) (k : Nat) (s : ZT) : ZT := (s.1 - w k, s.2.1 - p k, s.2.2 - 2 ^ k)
def z_next (sh : ZT → ZT) (L : List ZT) : List ZT := (z_mc L (L.map sh) []).reverse
/-- the best of those that fit -/
def z_fit (R : Nat) : List ZT → ZT → ZT
  | [], b => b
  | s :: L, b => z_fit R L (if s.1 ≤ R ∧ b.2.1 < s.2.1 then s else b)
/-- a set's bound -/
def z_bd (n : Nat) (w p : Nat → Nat) (R f t : Nat) (s : ZT) : Int :=
  if s.1 ≤ R then (s.2.1 : Int) + (if t < n then (((R - s.1) * p t / w t : Nat) : Int) else 0)
  else (s.2.1 : Int) + ((R : Int) - (s.1 : Int)) * (p (f - 1) : Int) / (w (f - 1) : Int)
def z_stay (n : Nat) (w p : Nat → Nat) (R f t : Nat) (b s : ZT) : Bool := decide ((s.1 ≤ R ∨ 0 < f) ∧ (b.2.1 : Int) < z_bd n w p R f t s)
def z_right (n f t m : Nat) : Bool := decide ((m % 2 = 0 ∧ t < n) ∨ f = 0)
def z_proved (n : Nat) (c : ZC) : Bool := decide (c.2.2.2.1 = [] ∨ (c.1 = 0 ∧ c.2.1 = n))
def z_new (n : Nat) (w p : Nat → Nat) (c : ZC) : List ZT :=
  if z_right n c.1 c.2.1 c.2.2.1 = true then z_next (z_shR w p c.2.1) c.2.2.2.1 else z_next (z_shL w p (c.1 - 1)) c.2.2.2.1
def z_mk (n : Nat) (w p : Nat → Nat) (R f t m : Nat) (L : List ZT) (b : ZT) : ZC := (f, t, m, L.filter (z_stay n w p R f t (z_fit R L b)), z_fit R L b)
def z_to (n : Nat) (w p : Nat → Nat) (R : Nat) (c : ZC) : ZC :=
  if z_right n c.1 c.2.1 c.2.2.1 = true then z_mk n w p R c.1 (c.2.1 + 1) (c.2.2.1 + 1) (z_new n w p c) c.2.2.2.2
  else z_mk n w p R (c.1 - 1) c.2.1 (c.2.2.1 + 1) (z_new n w p c) c.2.2.2.2
def z_step (n : Nat) (w p : Nat → Nat) (R M : Nat) (c : ZC) : Option ZC := if M < (z_new n w p c).length then none else some (z_to n w p R c)
def z_begin (n : Nat) (w p : Nat → Nat) (R : Nat) : ZC :=
  (z_bk w R n 0, z_bk w R n 0, 0, [(z_sm w (z_bk w R n 0), z_sm p (z_bk w R n 0), 2 ^ z_bk w R n 0 - 1)], (z_sm w (z_bk w R n 0), z_sm p (z_bk w R n 0), 2 ^ z_bk w R n 0 - 1))
/-- so many steps made; none if they can't be -/
def z_run (n : Nat) (w p : Nat → Nat) (R M : Nat) : Nat → ZC → Option ZC
  | 0, c => some c
  | k + 1, c => if z_proved n c = true then none else (z_step n w p R M c).bind (z_run n w p R M k)
/-- all steps that can be made -/
def z_end (n : Nat) (w p : Nat → Nat) (R M : Nat) : Nat → ZC → ZC
  | 0, c => c
  | k + 1, c => if z_proved n c = true then c else match z_step n w p R M c with
    | none => c
    | some d => z_end n w p R M k d
def z_in (w p : Nat → Nat) (f t : Nat) (s : ZT) : Prop := z_sm w f ≤ s.1 ∧ s.1 ≤ z_sm w t ∧ z_sm p f ≤ s.2.1 ∧ s.2.1 ≤ z_sm p t ∧ s.2.2 < 2 ^ t ∧ s.2.2 % 2 ^ f = 2 ^ f - 1
def z_ok (n : Nat) (w p : Nat → Nat) (R M : Nat) (c : ZC) : Prop :=
  (c.1 ≤ c.2.1 ∧ c.2.1 ≤ n ∧ c.2.2.1 + c.1 = c.2.1) ∧ z_inc c.2.2.2.1 ∧ (∀ s ∈ c.2.2.2.1, z_in w p c.1 c.2.1 s) ∧ c.2.2.2.1.length ≤ M ∧ z_in w p 0 n c.2.2.2.2 ∧ c.2.2.2.2.1 ≤ R
theorem z_pow_le {a b : Nat} (h : a ≤ b) : 2 ^ a ≤ 2 ^ b := Nat.pow_le_pow_right (by omega) h
theorem z_pow_pos (a : Nat) : 0 < 2 ^ a := Nat.pow_pos (by omega)
theorem z_in_up {w p : Nat → Nat} {f t t' : Nat} {s : ZT} (h : z_in w p f t s) (ht : t ≤ t') : z_in w p f t' s := by
  obtain ⟨h1, h2, h3, h4, h5, h6⟩ := h
  exact ⟨h1, Nat.le_trans h2 (z_sm_le ht), h3, Nat.le_trans h4 (z_sm_le ht), Nat.lt_of_lt_of_le h5 (z_pow_le ht), h6⟩
theorem z_mod_low {b f g : Nat} (h : b % 2 ^ f = 2 ^ f - 1) (hg : g ≤ f) : b % 2 ^ g = 2 ^ g - 1 := by
  have h1 : 2 ^ g ∣ 2 ^ f := Nat.pow_dvd_pow 2 hg
  obtain ⟨q, hq⟩ := h1
  rw [← Nat.mod_mod_of_dvd b ⟨q, hq⟩, h, hq]
  have hp := z_pow_pos g
  have hq0 : 0 < q := by
    rcases Nat.eq_zero_or_pos q with h0 | h0
    · rw [h0] at hq; have := z_pow_pos f; omega
    · exact h0
  have e : 2 ^ g * q - 1 = 2 ^ g * (q - 1) + (2 ^ g - 1) := by
    have : 2 ^ g * q = 2 ^ g * (q - 1) + 2 ^ g := by
      rw [← Nat.mul_succ]; congr 1; omega
    omega
  rw [e, Nat.mul_add_mod]
  exact Nat.mod_eq_of_lt (by omega)
theorem z_in_low {w p : Nat → Nat} {f g t : Nat} {s : ZT} (h : z_in w p f t s) (hg : g ≤ f) : z_in w p g t s := by
  obtain ⟨h1, h2, h3, h4, h5, h6⟩ := h
  exact ⟨Nat.le_trans (z_sm_le hg) h1, h2, Nat.le_trans (z_sm_le hg) h3, h4, h5, z_mod_low h6 hg⟩
theorem z_in_R {w p : Nat → Nat} {f t : Nat} {s : ZT} (h : z_in w p f t s) (hf : f ≤ t) : z_in w p f (t + 1) (z_shR w p t s) := by
  obtain ⟨h1, h2, h3, h4, h5, h6⟩ := h
  refine ⟨Nat.le_trans h1 (Nat.le_add_right _ _), Nat.add_le_add_right h2 _, Nat.le_trans h3 (Nat.le_add_right _ _), Nat.add_le_add_right h4 _, ?_, ?_⟩
  · show s.2.2 + 2 ^ t < 2 ^ (t + 1)
    rw [Nat.pow_succ]; omega
  · show (s.2.2 + 2 ^ t) % 2 ^ f = 2 ^ f - 1
    obtain ⟨q, hq⟩ := Nat.pow_dvd_pow 2 hf
    rw [hq, Nat.add_mul_mod_self_left]
    exact h6
theorem z_bit_ge {b f : Nat} (h : b % 2 ^ (f + 1) = 2 ^ (f + 1) - 1) : 2 ^ f ≤ b ∧ (b - 2 ^ f) % 2 ^ f = 2 ^ f - 1 ∧ (b - 2 ^ f) % 2 ^ (f + 1) = 2 ^ f - 1 := by
  have hp := z_pow_pos f
  have e1 : 2 ^ (f + 1) = 2 ^ f + 2 ^ f := by rw [Nat.pow_succ]; omega
  have h1 := Nat.mod_le b (2 ^ (f + 1))
  have h2 := Nat.div_add_mod b (2 ^ (f + 1))
  have hb : b - 2 ^ f = 2 ^ (f + 1) * (b / 2 ^ (f + 1)) + (2 ^ f - 1) := by omega
  refine ⟨by omega, ?_, ?_⟩
  · rw [hb, show 2 ^ (f + 1) * (b / 2 ^ (f + 1)) = 2 ^ f * (2 * (b / 2 ^ (f + 1))) by rw [Nat.pow_succ, Nat.mul_assoc], Nat.mul_add_mod]
    exact Nat.mod_eq_of_lt (by omega)
  · rw [hb, Nat.mul_add_mod]
    exact Nat.mod_eq_of_lt (by omega)
theorem z_in_L {w p : Nat → Nat} {f t : Nat} {s : ZT} (h : z_in w p (f + 1) t s) : w f ≤ s.1 ∧ p f ≤ s.2.1 ∧ 2 ^ f ≤ s.2.2 ∧ z_in w p f t (z_shL w p f s) := by
  obtain ⟨h1, h2, h3, h4, h5, h6⟩ := h
  simp only [z_sm] at h1 h3
  obtain ⟨g1, g2, -⟩ := z_bit_ge h6
  exact ⟨by omega, by omega, g1, show z_sm w f ≤ s.1 - w f by omega, show s.1 - w f ≤ _ by omega, show z_sm p f ≤ s.2.1 - p f by omega, show s.2.1 - p f ≤ _ by omega, show s.2.2 - 2 ^ f < _ by omega, g2⟩
theorem z_inc_R {w p : Nat → Nat} {k : Nat} {L : List ZT} (h : z_inc L) : z_inc (L.map (z_shR w p k)) := by
  refine List.Pairwise.map _ ?_ h
  intro a b hab
  exact ⟨Nat.add_lt_add_right hab.1 _, Nat.add_lt_add_right hab.2 _⟩
theorem z_inc_L {w p : Nat → Nat} {k : Nat} {L : List ZT} (h : z_inc L) (hL : ∀ s ∈ L, w k ≤ s.1 ∧ p k ≤ s.2.1) : z_inc (L.map (z_shL w p k)) := by
  induction L with
  | nil => exact List.Pairwise.nil
  | cons a L ih =>
    obtain ⟨h1, h2⟩ := List.pairwise_cons.mp h
    refine List.pairwise_cons.mpr ⟨fun x hx => ?_, ih h2 (fun s hs => hL s (List.mem_cons_of_mem _ hs))⟩
    obtain ⟨b, hb, rfl⟩ := List.mem_map.mp hx
    have ha := hL a List.mem_cons_self
    have hab := h1 b hb
    have hb' := hL b (List.mem_cons_of_mem _ hb)
    exact ⟨show a.1 - w k < b.1 - w k by omega, show a.2.1 - p k < b.2.1 - p k by omega⟩
theorem z_dec_rev {L : List ZT} (h : z_dec L) : z_inc L.reverse := List.pairwise_reverse.mpr h
/-- a new row: it rises; what it holds; how long it is -/
theorem z_next_ok {sh : ZT → ZT} {L : List ZT} (h : z_inc L) (hs : z_inc (L.map sh)) : z_inc (z_next sh L) ∧ (∀ x ∈ z_next sh L, x ∈ L ∨ ∃ y ∈ L, sh y = x) ∧ (z_next sh L).length ≤ 2 * L.length ∧ z_next sh L = (z_mm L (L.map sh) []).reverse := by
  obtain ⟨h1, h2⟩ := z_same (L.length + (L.map sh).length) (A := L) (B := L.map sh) (R := []) (Nat.le_refl _) h hs List.Pairwise.nil trivial trivial
  obtain ⟨h3, h4, h5⟩ := z_mc_all (L.length + (L.map sh).length) (A := L) (B := L.map sh) (R := []) (Nat.le_refl _)
  refine ⟨z_dec_rev h2, fun x hx => ?_, ?_, ?_⟩
  · rcases h3 x (List.mem_reverse.mp hx) with h | h | h
    · exact Or.inl h
    · obtain ⟨y, hy, e⟩ := List.mem_map.mp h
      exact Or.inr ⟨y, hy, e⟩
    · cases h
  · unfold z_next
    rw [List.length_reverse]
    simp only [List.length_map, List.length_nil] at h5
    omega
  · unfold z_next
    rw [h1]
theorem z_fit_in (Pr : ZT → Prop) {R : Nat} : ∀ {L : List ZT} {b : ZT}, Pr b → b.1 ≤ R → (∀ s ∈ L, Pr s) → Pr (z_fit R L b) ∧ (z_fit R L b).1 ≤ R
  | [], b, hb, hR, h => ⟨hb, hR⟩
  | s :: L, b, hb, hR, h => by
    unfold z_fit
    refine z_fit_in Pr ?_ ?_ (fun x hx => h x (List.mem_cons_of_mem _ hx))
    · split
      · exact h s List.mem_cons_self
      · exact hb
    · split
      · next h1 => exact h1.1
      · exact hR
theorem z_begin_ok {n : Nat} {w p : Nat → Nat} {R M : Nat} (hM : 1 ≤ M) : z_ok n w p R M (z_begin n w p R) := by
  obtain ⟨h1, h2, h3⟩ := z_bk_spec (w := w) (R := R) (r := n) (k := 0) (Nat.zero_le _)
  have hp := z_pow_pos (z_bk w R n 0)
  have hin : z_in w p (z_bk w R n 0) (z_bk w R n 0) (z_sm w (z_bk w R n 0), z_sm p (z_bk w R n 0), 2 ^ z_bk w R n 0 - 1) :=
    ⟨Nat.le_refl _, Nat.le_refl _, Nat.le_refl _, Nat.le_refl _, show 2 ^ z_bk w R n 0 - 1 < 2 ^ z_bk w R n 0 by omega, Nat.mod_eq_of_lt (show 2 ^ z_bk w R n 0 - 1 < 2 ^ z_bk w R n 0 by omega)⟩
  refine ⟨⟨Nat.le_refl _, by simp only [z_begin]; omega, by simp [z_begin]⟩, List.pairwise_singleton _ _, fun s hs => ?_, ?_, z_in_low (z_in_up hin (by omega)) (Nat.zero_le _), h3⟩
  · rw [List.mem_singleton.mp hs]; exact hin
  · exact hM
theorem z_right_t {n f t m : Nat} (h : z_right n f t m = true) (hp : ¬ (f = 0 ∧ t = n)) (ht : t ≤ n) : t < n := by
  have h1 := of_decide_eq_true h
  omega
theorem z_right_f {n f t m : Nat} (h : ¬ z_right n f t m = true) : 0 < f := by
  have h1 := of_decide_eq_false (eq_false_of_ne_true h)
  omega
/-- what the row before the best is sought keeps to -/
theorem z_new_ok {n : Nat} {w p : Nat → Nat} {R M : Nat} {c : ZC} (h : z_ok n w p R M c) (hp : ¬ z_proved n c = true) :
    z_inc (z_new n w p c) ∧ (∀ s ∈ z_new n w p c, z_in w p (z_to n w p R c).1 (z_to n w p R c).2.1 s) ∧ (z_new n w p c).length ≤ 2 * c.2.2.2.1.length
    ∧ ((z_to n w p R c).1 ≤ (z_to n w p R c).2.1 ∧ (z_to n w p R c).2.1 ≤ n ∧ (z_to n w p R c).2.2.1 + (z_to n w p R c).1 = (z_to n w p R c).2.1) := by
  obtain ⟨⟨h1, h2, h3⟩, hi, hs, hl, hb, hR⟩ := h
  have hp1 := of_decide_eq_false (eq_false_of_ne_true hp)
  unfold z_new z_to
  by_cases hr : z_right n c.1 c.2.1 c.2.2.1 = true
  · have ht := z_right_t hr (fun z => hp1 (Or.inr z)) h2
    rw [if_pos hr, if_pos hr]
    obtain ⟨a1, a2, a3, -⟩ := z_next_ok (sh := z_shR w p c.2.1) hi (z_inc_R hi)
    refine ⟨a1, fun s hs' => ?_, a3, Nat.le_succ_of_le h1, ht, ?_⟩
    · rcases a2 s hs' with h | ⟨y, hy, rfl⟩
      · exact z_in_up (hs s h) (Nat.le_succ _)
      · exact z_in_R (hs y hy) h1
    · show c.2.2.1 + 1 + c.1 = c.2.1 + 1
      omega
  · have hf := z_right_f hr
    rw [if_neg hr, if_neg hr]
    have hq : ∀ s ∈ c.2.2.2.1, w (c.1 - 1) ≤ s.1 ∧ p (c.1 - 1) ≤ s.2.1 ∧ 2 ^ (c.1 - 1) ≤ s.2.2 ∧ z_in w p (c.1 - 1) c.2.1 (z_shL w p (c.1 - 1) s) := fun s hs' => by
      have := hs s hs'
      rw [show c.1 = (c.1 - 1) + 1 by omega] at this
      exact z_in_L this
    obtain ⟨a1, a2, a3, -⟩ := z_next_ok (sh := z_shL w p (c.1 - 1)) hi (z_inc_L hi (fun s hs' => ⟨(hq s hs').1, (hq s hs').2.1⟩))
    refine ⟨a1, fun s hs' => ?_, a3, Nat.le_trans (Nat.sub_le _ _) h1, h2, ?_⟩
    · rcases a2 s hs' with h | ⟨y, hy, rfl⟩
      · exact z_in_low (hs s h) (Nat.sub_le _ _)
      · exact (hq y hy).2.2.2
    · show c.2.2.1 + 1 + (c.1 - 1) = c.2.1
      omega
theorem z_step_ok {n : Nat} {w p : Nat → Nat} {R M : Nat} {c d : ZC} (h : z_ok n w p R M c) (hp : ¬ z_proved n c = true) (hd : z_step n w p R M c = some d) : z_ok n w p R M d := by
  obtain ⟨a1, a2, a3, a4⟩ := z_new_ok (R := R) h hp
  unfold z_step at hd
  split at hd
  · cases hd
  · next hM =>
    cases hd
    obtain ⟨⟨h1, h2, h3⟩, hi, hs, hl, hb, hR⟩ := h
    have hfit := z_fit_in (z_in w p 0 n) (R := R) (L := z_new n w p c) (b := c.2.2.2.2) hb hR (fun s hs' => z_in_low (z_in_up (a2 s hs') a4.2.1) (Nat.zero_le _))
    have e1 : (z_to n w p R c).2.2.2.2 = z_fit R (z_new n w p c) c.2.2.2.2 := by
      unfold z_to; split <;> rfl
    have e2 : ∃ q : ZT → Bool, (z_to n w p R c).2.2.2.1 = (z_new n w p c).filter q := by
      unfold z_to; split
      · exact ⟨_, rfl⟩
      · exact ⟨_, rfl⟩
    obtain ⟨q, e2⟩ := e2
    refine ⟨a4, ?_, fun s hs' => ?_, ?_, ?_, ?_⟩
    · rw [e2]; exact List.Pairwise.filter _ a1
    · rw [e2] at hs'; exact a2 s (List.mem_filter.mp hs').1
    · rw [e2]; exact Nat.le_trans (List.length_filter_le _ _) (by omega)
    · rw [e1]; exact hfit.1
    · rw [e1]; exact hfit.2
theorem z_run_ok {n : Nat} {w p : Nat → Nat} {R M : Nat} : ∀ {k : Nat} {c d : ZC}, z_ok n w p R M c → z_run n w p R M k c = some d → z_ok n w p R M d ∧ d.2.2.1 = c.2.2.1 + k
  | 0, c, d, h, hd => by
    cases hd; exact ⟨h, rfl⟩
  | k + 1, c, d, h, hd => by
    unfold z_run at hd
    split at hd
    · cases hd
    · next hp =>
      cases hs : z_step n w p R M c with
      | none => rw [hs] at hd; cases hd
      | some e =>
        rw [hs] at hd
        have h1 := z_step_ok h hp hs
        obtain ⟨g1, g2⟩ := z_run_ok h1 (show z_run n w p R M k e = some d from hd)
        refine ⟨g1, ?_⟩
        have : e.2.2.1 = c.2.2.1 + 1 := by
          unfold z_step at hs
          split at hs
          · cases hs
          · cases hs; unfold z_to; split <;> rfl
        omega
/-- the last that fits is the best of them -/
theorem z_fit_inc {R : Nat} : ∀ {L : List ZT} {b : ZT}, z_inc L → (∀ s ∈ L, R < s.1) → z_fit R L b = b
  | [], b, _, _ => rfl
  | s :: L, b, hi, h => by
    unfold z_fit
    rw [if_neg (by have := h s List.mem_cons_self; omega)]
    exact z_fit_inc (z_inc_tl hi) (fun x hx => h x (List.mem_cons_of_mem _ hx))
