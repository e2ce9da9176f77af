/-! the calls as the law sees them -/
theorem xMi_imp {l : Launch} {y : MethodName} {wsy : List Cond} {rm : Room} {ad : (Nat → Nat) × (Nat → Nat)} {D : va_G} {cl : List vw_C} {tys : List (ClassId × FieldType)} {av : List Value} {w : va_W} {sz : Nat} {S : Type} {post post' : Int32 → S → Prop} {F : S → va_W → Prop} {mc ms : Nat} (hM : xMi l y wsy rm ad D cl tys av w sz post F mc ms) (h : ∀ r u, post r u → post' r u) : xMi l y wsy rm ad D cl tys av w sz post' F mc ms :=
  xG_i hM (wle.rf _) (fun r u w1 h1 h2 => ⟨u, w1, h r u h1, h2, wle.rf _⟩)
theorem xMl_imp {l : Launch} {y : MethodName} {wsy : List Cond} {rm : Room} {ad : (Nat → Nat) × (Nat → Nat)} {D : va_G} {cl : List vw_C} {tys : List (ClassId × FieldType)} {av : List Value} {w : va_W} {sz : Nat} {S : Type} {post post' : Int64 → S → Prop} {F : S → va_W → Prop} {mc ms : Nat} (hM : xMl l y wsy rm ad D cl tys av w sz post F mc ms) (h : ∀ r u, post r u → post' r u) : xMl l y wsy rm ad D cl tys av w sz post' F mc ms :=
  xG_l hM (wle.rf _) (fun r u w1 h1 h2 => ⟨u, w1, h r u h1, h2, wle.rf _⟩)
theorem sum_le {q : Nat × Nat} (h1 : z_pw q.1) (h2 : z_pw q.2) : z_sum q ≤ 2048 := by
  have a := h1.le
  have b := h2.le
  show q.1 + q.2 ≤ 2048
  omega
theorem mb_le {a b : Nat} (h : a ≤ 2048) : 6 * (a - b) ≤ 20000 := by omega
theorem mb_wc {L : ZL} {d : ZC} {q : Nat × Nat} (hl : l_lim L) (hq : z_q q d) : z_sum (l_wc L d q) ≤ 2048 := by
  obtain ⟨w0, w1⟩ := z_wc_ok (R := L.2.2.2.1) (w := z_w 60 L.2.1 L.2.2.1 L.1) (p := z_p 60 L.2.1 L.2.2.1 L.1) (n := z_c 60 L.1) hl.2.2.2.2.2.2 hq
  by_cases hp : z_proved (z_c 60 L.1) d = true
  · exact sum_le (w0 (Or.inl hp)).1 (w0 (Or.inl hp)).2.1
  · cases hs : z_step (z_c 60 L.1) (z_w 60 L.2.1 L.2.2.1 L.1) (z_p 60 L.2.1 L.2.2.1 L.1) L.2.2.2.1 L.2.2.2.2.1 d with
    | none => exact sum_le (w0 (Or.inr hs)).1 (w0 (Or.inr hs)).2.1
    | some d' => exact sum_le (w1 d' hp hs).1 (w1 d' hp hs).2.1
theorem mb_wce {L : ZL} {d : ZC} {q : Nat × Nat} (hl : l_lim L) (ha : l_at L d) (hq : z_q q d) : z_sum (l_wce L d q) ≤ 2048 := by
  have h := (z_wce_ok hl.2.2.2.2.2.2 (k := 60) (ha.ok hl).1 hq).1
  exact sum_le h.1 h.2.1
theorem mb_wcr {L : ZL} {d : ZC} {q : Nat × Nat} (hl : l_lim L) (ha : l_at L d) (h1 : z_pw q.1) (h2 : z_pw q.2) : z_sum (l_wcr L q) ≤ 2048 := by
  have h := (l_wcr_ok (q := q) hl ha h1 h2).1
  exact sum_le h.1 h.2.1
theorem mb_u {H : List ZL} {q : Nat × Nat} (hH : ∀ M ∈ H, l_ok M) (h1 : z_pw q.1) (h2 : z_pw q.2) : u_mb H q ≤ 20000 := by
  unfold u_mb
  cases e : H.getLast? with
  | none => exact Nat.zero_le _
  | some L =>
    obtain ⟨hl, d, ha⟩ := hH L (List.mem_of_getLast? e)
    exact mb_le (mb_wcr hl ha h1 h2)
theorem mb_fqs {L : ZL} {fs : Int32} {q : Nat × Nat} (hl : l_lim L) (h1 : z_pw q.1) (h2 : z_pw q.2) : z_sum (z_fqs L fs q) ≤ 2048 := by
  have h := (z_fqs_ok (fs := fs) hl h1 h2).1
  exact sum_le h.1 h.2
theorem mb_least {L : ZL} {v : Int32} {q : Nat × Nat} (hl : l_lim L) (h1 : z_pw q.1) (h2 : z_pw q.2) : z_sum (z_least L v q).2 ≤ 2048 := by
  have h := (z_least_ok (v := v) hl h1 h2).1
  exact sum_le h.1 h.2
theorem mb_oq {L : ZL} {v : Int32} {q : Nat × Nat} (hl : l_lim L) (h1 : z_pw q.1) (h2 : z_pw q.2) : z_sum (z_oq 60 L v q) ≤ 2048 := by
  unfold z_oq
  split
  · have h := (z_wco_ok (e := 60) (n := L.1) (W := L.2.1) (P := L.2.2.1) (R := v.toInt.toNat) hl.2.2.2.2.2.1 hl.2.2.2.2.2.2 h1 h2).1
    exact sum_le h.1 h.2
  · exact sum_le h1 h2
theorem mb_wq {L : ZL} {v : Int32} {q : Nat × Nat} (hl : l_lim L) (h1 : z_pw q.1) (h2 : z_pw q.2) : z_sum (z_wq L v q) ≤ 2048 := by
  unfold z_wq
  split
  · have h := (z_wco_ok (e := v.toInt.toNat) (n := L.1) (W := L.2.1) (P := L.2.2.1) (R := L.2.2.2.1) hl.2.2.2.2.2.1 hl.2.2.2.2.2.2 h1 h2).1
    exact sum_le h.1 h.2
  · exact sum_le h1 h2
theorem mb_wiq {L : ZL} {v : Int32} {q : Nat × Nat} (hl : l_lim L) (h1 : z_pw q.1) (h2 : z_pw q.2) : z_sum (z_wiq L v q) ≤ 2048 := by
  unfold z_wiq
  split
  · have h := (z_wco_ok (e := v.toInt.toNat) (n := L.1) (W := L.2.1) (P := L.2.2.1) (R := L.2.2.2.1 - L.2.1 v.toInt.toNat) hl.2.2.2.2.2.1 hl.2.2.2.2.2.2 h1 h2).1
    exact sum_le h.1 h.2
  · exact sum_le h1 h2
def LXi (l : Launch) (y : MethodName) (wsy : List Cond) (ad : (Nat → Nat) × (Nat → Nat)) (dC : Nat → ClassId) (dI : Nat → Nat → Nat) (cy : Nat → ClassId) (a_x a_m a_o : Nat) (As : List Value) (σ : ZS) (ζ : ZM) (o : Nat → Int64) (w : va_W) (sz : Nat) (C : Int32 → ZI → List ZL → (Nat → Option ZI) → Prop) : Prop :=
  ∃ (rm : Room) (mc ms : Nat), rm.frames ≤ 11 ∧ rm.locals ≤ 400 ∧ rm.cells = mc ∧ rm.slots = ms ∧ mc ≤ 20000 ∧ ms ≤ 20000 ∧ xMi l y wsy rm ad (dC, dI) vwCl (xT cy) (.ref a_x :: As) w sz (fun r (σ' : ZS) => C r σ'.1 σ'.2.1 σ'.2.2.2.1 ∧ z_S σ' ∧ mc + 6 * zQ σ ≤ 6 * zQ σ' + 8 ∧ ms + 6 * zQ σ ≤ 6 * zQ σ' + 800) (fun σ' w => LW cy a_x a_m a_o σ' ζ o w) mc ms
def LYi (l : Launch) (y : MethodName) (wsy : List Cond) (ad : (Nat → Nat) × (Nat → Nat)) (dC : Nat → ClassId) (dI : Nat → Nat → Nat) (cy : Nat → ClassId) (a_x a_m a_o : Nat) (As : List Value) (σ : ZS) (o : Nat → Int64) (w : va_W) (sz : Nat) (C : Int32 → ZI → List ZL → (Nat → Option ZI) → Int32 → Prop) : Prop :=
  ∃ rm : Room, rm.frames ≤ 11 ∧ rm.locals ≤ 400 ∧ rm.cells = 0 ∧ rm.slots = 0 ∧ xMi l y wsy rm ad (dC, dI) vwCl (xT cy) (.ref a_m :: As) w sz (fun r (ζ' : ZM) => C r ζ'.1 ζ'.2.1 ζ'.2.2.1 ζ'.2.2.2) (fun ζ' w => LW cy a_x a_m a_o σ ζ' o w) 0 0
def LXl (l : Launch) (y : MethodName) (wsy : List Cond) (ad : (Nat → Nat) × (Nat → Nat)) (dC : Nat → ClassId) (dI : Nat → Nat → Nat) (cy : Nat → ClassId) (a_x a_m a_o : Nat) (As : List Value) (σ : ZS) (ζ : ZM) (o : Nat → Int64) (w : va_W) (sz : Nat) (C : Int64 → ZI → List ZL → (Nat → Option ZI) → Prop) : Prop :=
  ∃ (rm : Room) (mc ms : Nat), rm.frames ≤ 11 ∧ rm.locals ≤ 400 ∧ rm.cells = mc ∧ rm.slots = ms ∧ mc ≤ 20000 ∧ ms ≤ 20000 ∧ xMl l y wsy rm ad (dC, dI) vwCl (xT cy) (.ref a_x :: As) w sz (fun r (σ' : ZS) => C r σ'.1 σ'.2.1 σ'.2.2.2.1 ∧ z_S σ' ∧ mc + 6 * zQ σ ≤ 6 * zQ σ' + 8 ∧ ms + 6 * zQ σ ≤ 6 * zQ σ' + 800) (fun σ' w => LW cy a_x a_m a_o σ' ζ o w) mc ms
def LYl (l : Launch) (y : MethodName) (wsy : List Cond) (ad : (Nat → Nat) × (Nat → Nat)) (dC : Nat → ClassId) (dI : Nat → Nat → Nat) (cy : Nat → ClassId) (a_x a_m a_o : Nat) (As : List Value) (σ : ZS) (o : Nat → Int64) (w : va_W) (sz : Nat) (C : Int64 → ZI → List ZL → (Nat → Option ZI) → Int32 → Prop) : Prop :=
  ∃ rm : Room, rm.frames ≤ 11 ∧ rm.locals ≤ 400 ∧ rm.cells = 0 ∧ rm.slots = 0 ∧ xMl l y wsy rm ad (dC, dI) vwCl (xT cy) (.ref a_m :: As) w sz (fun r (ζ' : ZM) => C r ζ'.1 ζ'.2.1 ζ'.2.2.1 ζ'.2.2.2) (fun ζ' w => LW cy a_x a_m a_o σ ζ' o w) 0 0
