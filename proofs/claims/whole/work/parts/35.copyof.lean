set_option maxHeartbeats 4000000 in
set_option maxRecDepth 100000 in
/-- Arrays.copyOf into a longer row: what was there, then zeros -/
theorem mcpoI (l : Launch) (ad : (Nat → Nat) × (Nat → Nat)) (dC : Nat → ClassId) (dI : Nat → Nat → Nat) (cy : Nat → ClassId) (a sz n0 : Nat) (f : Nat → Int32) (v : Int32) (N' : Nat) (hv : v = nI N') (hlt : n0 < N') (hle : N' ≤ 65536) : Met l yJ7_copyOf_59c91 wsJ7_copyOf_59c91 ({ frames := 1, cells := 1, slots := N', locals := 40 } : Room) (va_Pc [.ref a, .int v] (xPre ad (dC, dI) vwCl (xT cy) [(a, .inl (cy 0, n0, .inl f))] sz)) (va_Qr (fun (_ : Unit) => True) (fun _ q t => va_P (dC, dI) vwCl [(a, .inl (cy 0, n0, .inl f)), (q, .inl (cy 0, N', .inl (va_cpy f (fun _ => 0) 0 0 n0)))] t.heap ∧ va_K (dC, dI) vwCl (xT cy) t ∧ va_D (va_A [(a, .inl (cy 0, n0, .inl f))] sz) [(a, .inl (cy 0, n0, .inl f)), (q, .inl (cy 0, N', .inl (va_cpy f (fun _ => 0) 0 0 n0)))]) (va_A [(a, .inl (cy 0, n0, .inl f))] sz)) 1 N' (va_A [(a, .inl (cy 0, n0, .inl f))] sz) := by
  refine va_MetF (cc := cJ7_copyOf_59c91) (maxL := 3) (ret := (some (.array .int))) (by decide +kernel) rfl ?_
  intro p e s m args below meth c s₁ B hml hv0
  obtain ⟨rfl, hsz, hP, hK, hD0, hE⟩ := hv0
  have hx := B.exec
  have hb := B.bytes
  have hr := B.returns
  have hts := atoms_spec (ws := wsJ7_copyOf_59c91) B.pre
  have hown : s.vm.findClass RJ7 = some m.cls := findClass_of_methodNamed B.named
  have hlocks := B.notSynchronized
  subst hsz
  have hD := hD0.self (sz := s.heap.size)
  generalize hAe : va_A [(a, .inl (cy 0, n0, .inl f))] s.heap.size = A at hD hE ⊢
  have hA : ∀ q : Nat, s.heap.size ≤ q → A q := fun q h => by rw [← hAe]; exact Or.inr h
  have hS : va_S A s.heap s.heap [] := va_S.rf
  have hl := lv_entry ([.ref a, .int v]) (n := 3) (Nat.le_of_ble_eq_true rfl)
  rw [lg_entry_eq]
  generalize (lg_sl ([.ref a, .int v]) ++ List.replicate (3 - (lg_sl ([.ref a, .int v])).length) Slot.unset).toArray = ls at hl ⊢
  have hl : lv_has ls 3 [(0, .ref a), (1, .int v)] := hl
  have h31 : N' < 2 ^ 31 := by omega
  refine lv_iload_n hx hb dJ7_copyOf_59c91_0 rfl (lv_at hl 1 rfl) ?_
  refine lv_aload_n hx hb dJ7_copyOf_59c91_1 rfl (lv_at hl 0 rfl) ?_
  refine va_alen (D := (dC, dI)) (v := nI n0) hx hb hK hP 0 0 rfl rfl rfl dJ7_copyOf_59c91_2 ?_
  refine lv_icmp_ne (tgt := 14) hx hb dJ7_copyOf_59c91_3 (by decide) (fun _ => ?_) (fun c9 => absurd (by rw [hv] at c9; exact (nI_eq h31 (by omega)).mp c9) (by omega))
  refine lv_iload_n hx hb dJ7_copyOf_59c91_14 rfl (lv_at hl 1 rfl) ?_
  refine va_newa (D := (dC, dI)) (atype := .int) (ty := .int) (N' := N') (a0 := (N', .inl (fun _ => 0))) hx hb (hts _ (List.mem_cons_of_mem _ (List.mem_of_getElem? (i := 6) rfl))) rfl hK hP hD hS hA (fun _ => rfl) (by rw [hv]; exact nI_pos h31) (by rw [hv]; exact nI_clamp h31) (by show N' * _ ≤ _; simp only [componentBytes]; omega) (Nat.le_refl _) (by show 0 + N' ≤ N'; omega) dJ7_copyOf_59c91_15 (fun q cA H hK9 hP hD hS => ?_)
  obtain rfl : cA = cy 0 := x_same hK hK9 0 rfl
  have hP : va_P (dC, dI) vwCl [(a, .inl (cy 0, n0, .inl f)), (q, .inl (cy 0, N', .inl (fun _ => 0)))] H := hP
  have hD : va_D A [(a, .inl (cy 0, n0, .inl f)), (q, .inl (cy 0, N', .inl (fun _ => 0)))] := hD
  refine lv_astore_n (lv' := [(2, .ref q), (0, .ref a), (1, .int v)]) hx hb dJ7_copyOf_59c91_17 rfl hl (by decide) rfl (fun ls hl => ?_)
  refine lv_aload_n hx hb dJ7_copyOf_59c91_18 rfl (lv_at hl 1 rfl) ?_
  refine lv_iconst (v := 0) hx hb dJ7_copyOf_59c91_19 (by decide) ?_
  refine lv_aload_n hx hb dJ7_copyOf_59c91_20 rfl (lv_at hl 0 rfl) ?_
  refine lv_iconst (v := 0) hx hb dJ7_copyOf_59c91_21 (by decide) ?_
  refine lv_aload_n hx hb dJ7_copyOf_59c91_22 rfl (lv_at hl 1 rfl) ?_
  refine va_alen (D := (dC, dI)) (v := nI n0) hx hb hK hP 0 0 rfl rfl rfl dJ7_copyOf_59c91_23 ?_
  refine lv_iload_n hx hb dJ7_copyOf_59c91_24 rfl (lv_at hl 2 rfl) ?_
  refine va_mmin hx hb (hml.trans hl.1.symm) hown (hts _ (List.mem_cons_of_mem _ (List.mem_of_getElem? (i := 7) rfl))) (hts _ (List.mem_cons_of_mem _ (List.mem_of_getElem? (i := 8) rfl))) (hts _ (List.mem_cons_of_mem _ (List.mem_of_getElem? (i := 9) rfl))) (hts _ (List.mem_cons_of_mem _ (List.mem_of_getElem? (i := 10) rfl))) (Nat.le_of_ble_eq_true rfl) (Nat.le_of_ble_eq_true rfl) (Nat.le_refl _) (by show 0 + N' ≤ N'; omega) dJ7_copyOf_59c91_25 ?_
  have e9 : (if v < nI n0 then v else nI n0) = nI n0 := by rw [hv]; exact if_neg (nI_nlt (by omega) h31)
  rw [e9]
  have en : (nI n0).toNatClampNeg = n0 := nI_clamp (by omega)
  have e0 : (0 : Int32).toNatClampNeg = 0 := by decide
  refine va_copyi (D := (dC, dI)) hx hb (hml.trans hl.1.symm) hown (hts _ (List.mem_cons_of_mem _ (List.mem_of_getElem? (i := 11) rfl))) (hts _ (List.mem_cons_of_mem _ (List.mem_of_getElem? (i := 12) rfl))) (hts _ (List.mem_cons_of_mem _ (List.mem_of_getElem? (i := 13) rfl))) (hts _ (List.mem_cons_of_mem _ (List.mem_of_getElem? (i := 14) rfl))) hK hP hD hS 0 1 0 0 rfl rfl rfl rfl rfl (by decide) (by decide) (nI_pos (by omega)) (by rw [en, e0]; omega) (by rw [en, e0]; omega) (fun _ _ => rfl) (Nat.le_of_ble_eq_true rfl) (Nat.le_of_ble_eq_true rfl) dJ7_copyOf_59c91_28 (fun H locs hP hD hS => ?_)
  rw [en, e0] at hP hD
  have hP : va_P (dC, dI) vwCl [(a, .inl (cy 0, n0, .inl f)), (q, .inl (cy 0, N', .inl (va_cpy f (fun _ => 0) 0 0 n0)))] H := hP
  have hD : va_D A [(a, .inl (cy 0, n0, .inl f)), (q, .inl (cy 0, N', .inl (va_cpy f (fun _ => 0) 0 0 n0)))] := hD
  refine lv_aload_n hx hb dJ7_copyOf_59c91_31 rfl (lv_at hl 0 rfl) ?_
  refine W.widen (k := 1) (n := N') (Nat.le_refl _) (by show 0 + N' ≤ N'; omega) ?_
  exact W.aret (v := .ref q) hx hb hr (Or.inr ⟨_, rfl⟩) (Or.inr ⟨_, rfl⟩) (fun t ht hW => ⟨⟨(), q, rfl, trivial, by rw [ht]; exact hP, va_K.moved hW.alike hK, hD⟩, hS.F ht⟩) hS.2.2 dJ7_copyOf_59c91_32
set_option maxHeartbeats 4000000 in
/-- a call of it -/
theorem x_cpoI {p : Program} {l : Launch} {e : Env} {R : Room} {s : State} {m : MethodId} {args : Array Value} {below : List Frame} {meth : Method} {c : Code} {H : Heap} {locs : List Loc} {cells slots : Nat} {Q : State → Prop} {cc : ByteArray} {pc : Nat} {ls : Array Slot} {rest : List Value} {ad : (Nat → Nat) × (Nat → Nat)} {dC : Nat → ClassId} {dI : Nat → Nat → Nat} {cy : Nat → ClassId} {A : Nat → Prop} {ws : va_W} {nL index a n0 N' : Nat} {Ts : List Cond} {own : String} {f : Nat → Int32} {v : Int32}
    (S0 : CallFix p m c cc nL s args Ts own) (hG : GoodIn Ts (va_wsS own index yJ7_copyOf_59c91 wsJ7_copyOf_59c91)) (hE : xE ad A s s.heap) (hK : va_K (dC, dI) vwCl (xT cy) s) (hP : va_P (dC, dI) vwCl ws H) (hD : va_D A ws) (hS : va_S A s.heap H locs) (hA : ∀ q, s.heap.size ≤ q → A q) (q0 : Nat) (ha : ws[q0]? = some (a, .inl (cy 0, n0, .inl f))) (hv : v = nI N') (hlt : n0 < N') (hle : N' ≤ 65536) (hfr : 1 + 1 ≤ R.frames) (hlo : 8 + (3 + 11) + 40 ≤ R.locals) (hW : (rest.map fun v => v.category).sum ≤ 8) (hsz : ls.size = nL) (hdg : decode cc pc = .ok (.invokestatic index, 3)) (hf : cells + 1 ≤ R.cells ∧ slots + N' ≤ R.slots)
    (kk : ∀ (q : Nat) (H1 : Heap) (locs1 : List Loc), va_P (dC, dI) vwCl (ws ++ [(q, .inl (cy 0, N', .inl (va_cpy f (fun _ => 0) 0 0 n0)))]) H1 → va_D A (ws ++ [(q, .inl (cy 0, N', .inl (va_cpy f (fun _ => 0) 0 0 n0)))]) → va_S A s.heap H1 locs1 → W p l e R s m args below meth c H1 locs1 (cells + 1) (slots + N') Q (F0 m (pc + 3) ls (.ref q :: rest))) : W p l e R s m args below meth c H locs cells slots Q (F0 m pc ls (.int v :: .ref a :: rest)) := by
  have hC : [q0].map (fun i => ws[i]?) = [(a, .inl (cy 0, n0, .inl f))].map some := by simp only [List.map_cons, List.map_nil, ha]
  obtain ⟨hPc, hDc, hFc, hpre⟩ := x_cut hE hK hP hD hS hA [q0] hC rfl
  refine va_callr (va_runS (As := [.ref a, .int v]) (rest := rest) S0 (mcpoI l ad dC dI cy a H.size n0 f v N' hv hlt hle) (va_cwS 2 S0.2.2.2.2 hG rfl rfl rfl (by decide +kernel) ⟨hfr, hlo⟩) ⟨x_blind, fun U hU hW => hpre _ U hU hW⟩ rfl rfl hsz rfl (lv_room hW) hdg hf) hS (fun q _ h => hFc q h) hFc (fun u q t H1 locs1 ht hvm hw hB hz1 hk1 hS1 => ?_)
  obtain ⟨hP1, hK1, hD1⟩ := hB
  have hP2 : va_P (dC, dI) vwCl ws H1 := x_back0 (u := ()) hP hD [q0] hC ht ⟨_, rfl, hP1.sub [0] rfl, hK1, hD1.sub [0] (by decide) rfl⟩ hk1
  rw [ht] at hP1
  have hnew : H.size ≤ q := by
    rcases hD1.2 1 _ rfl with ⟨k, e9, h9⟩ | h9
    · cases k with
      | zero => cases h9; exact absurd (hD1.1 0 1 _ _ rfl rfl rfl) (by decide)
      | succ k => simp at h9
    · exact h9
  refine kk q H1 locs1 (hP2.app (hP1.sub [1] rfl)) (hD.app ((hD1.sub [1] (by decide) rfl).weaken (fun _ q _ h => hFc q.1 h)) (fun i j x y hx hy hxy => ?_)) hS1
  have h8 := (hP i x hx).lt
  cases j with
  | zero => cases hy; have h7 : x.1 = q := hxy; omega
  | succ j => simp at hy
set_option maxHeartbeats 4000000 in
set_option maxRecDepth 100000 in
/-- Arrays.copyOf into a longer row: what was there, then zeros -/
theorem mcpoJ (l : Launch) (ad : (Nat → Nat) × (Nat → Nat)) (dC : Nat → ClassId) (dI : Nat → Nat → Nat) (cy : Nat → ClassId) (a sz n0 : Nat) (f : Nat → Int64) (v : Int32) (N' : Nat) (hv : v = nI N') (hlt : n0 < N') (hle : N' ≤ 65536) : Met l yJ7_copyOf_c38d5 wsJ7_copyOf_c38d5 ({ frames := 1, cells := 1, slots := N', locals := 40 } : Room) (va_Pc [.ref a, .int v] (xPre ad (dC, dI) vwCl (xT cy) [(a, .inl (cy 1, n0, .inr (.inl f)))] sz)) (va_Qr (fun (_ : Unit) => True) (fun _ q t => va_P (dC, dI) vwCl [(a, .inl (cy 1, n0, .inr (.inl f))), (q, .inl (cy 1, N', .inr (.inl (va_cpy f (fun _ => 0) 0 0 n0))))] t.heap ∧ va_K (dC, dI) vwCl (xT cy) t ∧ va_D (va_A [(a, .inl (cy 1, n0, .inr (.inl f)))] sz) [(a, .inl (cy 1, n0, .inr (.inl f))), (q, .inl (cy 1, N', .inr (.inl (va_cpy f (fun _ => 0) 0 0 n0))))]) (va_A [(a, .inl (cy 1, n0, .inr (.inl f)))] sz)) 1 N' (va_A [(a, .inl (cy 1, n0, .inr (.inl f)))] sz) := by
  refine va_MetF (cc := cJ7_copyOf_c38d5) (maxL := 3) (ret := (some (.array .long))) (by decide +kernel) rfl ?_
  intro p e s m args below meth c s₁ B hml hv0
  obtain ⟨rfl, hsz, hP, hK, hD0, hE⟩ := hv0
  have hx := B.exec
  have hb := B.bytes
  have hr := B.returns
  have hts := atoms_spec (ws := wsJ7_copyOf_c38d5) B.pre
  have hown : s.vm.findClass RJ7 = some m.cls := findClass_of_methodNamed B.named
  have hlocks := B.notSynchronized
  subst hsz
  have hD := hD0.self (sz := s.heap.size)
  generalize hAe : va_A [(a, .inl (cy 1, n0, .inr (.inl f)))] s.heap.size = A at hD hE ⊢
  have hA : ∀ q : Nat, s.heap.size ≤ q → A q := fun q h => by rw [← hAe]; exact Or.inr h
  have hS : va_S A s.heap s.heap [] := va_S.rf
  have hl := lv_entry ([.ref a, .int v]) (n := 3) (Nat.le_of_ble_eq_true rfl)
  rw [lg_entry_eq]
  generalize (lg_sl ([.ref a, .int v]) ++ List.replicate (3 - (lg_sl ([.ref a, .int v])).length) Slot.unset).toArray = ls at hl ⊢
  have hl : lv_has ls 3 [(0, .ref a), (1, .int v)] := hl
  have h31 : N' < 2 ^ 31 := by omega
  refine lv_iload_n hx hb dJ7_copyOf_c38d5_0 rfl (lv_at hl 1 rfl) ?_
  refine lv_aload_n hx hb dJ7_copyOf_c38d5_1 rfl (lv_at hl 0 rfl) ?_
  refine va_alen (D := (dC, dI)) (v := nI n0) hx hb hK hP 0 1 rfl rfl rfl dJ7_copyOf_c38d5_2 ?_
  refine lv_icmp_ne (tgt := 14) hx hb dJ7_copyOf_c38d5_3 (by decide) (fun _ => ?_) (fun c9 => absurd (by rw [hv] at c9; exact (nI_eq h31 (by omega)).mp c9) (by omega))
  refine lv_iload_n hx hb dJ7_copyOf_c38d5_14 rfl (lv_at hl 1 rfl) ?_
  refine va_newa (D := (dC, dI)) (atype := .long) (ty := .long) (N' := N') (a0 := (N', .inr (.inl (fun _ => 0)))) hx hb (hts _ (List.mem_cons_of_mem _ (List.mem_of_getElem? (i := 6) rfl))) rfl hK hP hD hS hA (fun _ => rfl) (by rw [hv]; exact nI_pos h31) (by rw [hv]; exact nI_clamp h31) (by show N' * _ ≤ _; simp only [componentBytes]; omega) (Nat.le_refl _) (by show 0 + N' ≤ N'; omega) dJ7_copyOf_c38d5_15 (fun q cA H hK9 hP hD hS => ?_)
  obtain rfl : cA = cy 1 := x_same hK hK9 1 rfl
  have hP : va_P (dC, dI) vwCl [(a, .inl (cy 1, n0, .inr (.inl f))), (q, .inl (cy 1, N', .inr (.inl (fun _ => 0))))] H := hP
  have hD : va_D A [(a, .inl (cy 1, n0, .inr (.inl f))), (q, .inl (cy 1, N', .inr (.inl (fun _ => 0))))] := hD
  refine lv_astore_n (lv' := [(2, .ref q), (0, .ref a), (1, .int v)]) hx hb dJ7_copyOf_c38d5_17 rfl hl (by decide) rfl (fun ls hl => ?_)
  refine lv_aload_n hx hb dJ7_copyOf_c38d5_18 rfl (lv_at hl 1 rfl) ?_
  refine lv_iconst (v := 0) hx hb dJ7_copyOf_c38d5_19 (by decide) ?_
  refine lv_aload_n hx hb dJ7_copyOf_c38d5_20 rfl (lv_at hl 0 rfl) ?_
  refine lv_iconst (v := 0) hx hb dJ7_copyOf_c38d5_21 (by decide) ?_
  refine lv_aload_n hx hb dJ7_copyOf_c38d5_22 rfl (lv_at hl 1 rfl) ?_
  refine va_alen (D := (dC, dI)) (v := nI n0) hx hb hK hP 0 1 rfl rfl rfl dJ7_copyOf_c38d5_23 ?_
  refine lv_iload_n hx hb dJ7_copyOf_c38d5_24 rfl (lv_at hl 2 rfl) ?_
  refine va_mmin hx hb (hml.trans hl.1.symm) hown (hts _ (List.mem_cons_of_mem _ (List.mem_of_getElem? (i := 7) rfl))) (hts _ (List.mem_cons_of_mem _ (List.mem_of_getElem? (i := 8) rfl))) (hts _ (List.mem_cons_of_mem _ (List.mem_of_getElem? (i := 9) rfl))) (hts _ (List.mem_cons_of_mem _ (List.mem_of_getElem? (i := 10) rfl))) (Nat.le_of_ble_eq_true rfl) (Nat.le_of_ble_eq_true rfl) (Nat.le_refl _) (by show 0 + N' ≤ N'; omega) dJ7_copyOf_c38d5_25 ?_
  have e9 : (if v < nI n0 then v else nI n0) = nI n0 := by rw [hv]; exact if_neg (nI_nlt (by omega) h31)
  rw [e9]
  have en : (nI n0).toNatClampNeg = n0 := nI_clamp (by omega)
  have e0 : (0 : Int32).toNatClampNeg = 0 := by decide
  refine va_copyl (D := (dC, dI)) hx hb (hml.trans hl.1.symm) hown (hts _ (List.mem_cons_of_mem _ (List.mem_of_getElem? (i := 11) rfl))) (hts _ (List.mem_cons_of_mem _ (List.mem_of_getElem? (i := 12) rfl))) (hts _ (List.mem_cons_of_mem _ (List.mem_of_getElem? (i := 13) rfl))) (hts _ (List.mem_cons_of_mem _ (List.mem_of_getElem? (i := 14) rfl))) hK hP hD hS 0 1 1 1 rfl rfl rfl rfl rfl (by decide) (by decide) (nI_pos (by omega)) (by rw [en, e0]; omega) (by rw [en, e0]; omega) (fun _ _ => rfl) (Nat.le_of_ble_eq_true rfl) (Nat.le_of_ble_eq_true rfl) dJ7_copyOf_c38d5_28 (fun H locs hP hD hS => ?_)
  rw [en, e0] at hP hD
  have hP : va_P (dC, dI) vwCl [(a, .inl (cy 1, n0, .inr (.inl f))), (q, .inl (cy 1, N', .inr (.inl (va_cpy f (fun _ => 0) 0 0 n0))))] H := hP
  have hD : va_D A [(a, .inl (cy 1, n0, .inr (.inl f))), (q, .inl (cy 1, N', .inr (.inl (va_cpy f (fun _ => 0) 0 0 n0))))] := hD
  refine lv_aload_n hx hb dJ7_copyOf_c38d5_31 rfl (lv_at hl 0 rfl) ?_
  refine W.widen (k := 1) (n := N') (Nat.le_refl _) (by show 0 + N' ≤ N'; omega) ?_
  exact W.aret (v := .ref q) hx hb hr (Or.inr ⟨_, rfl⟩) (Or.inr ⟨_, rfl⟩) (fun t ht hW => ⟨⟨(), q, rfl, trivial, by rw [ht]; exact hP, va_K.moved hW.alike hK, hD⟩, hS.F ht⟩) hS.2.2 dJ7_copyOf_c38d5_32
set_option maxHeartbeats 4000000 in
/-- a call of it -/
theorem x_cpoJ {p : Program} {l : Launch} {e : Env} {R : Room} {s : State} {m : MethodId} {args : Array Value} {below : List Frame} {meth : Method} {c : Code} {H : Heap} {locs : List Loc} {cells slots : Nat} {Q : State → Prop} {cc : ByteArray} {pc : Nat} {ls : Array Slot} {rest : List Value} {ad : (Nat → Nat) × (Nat → Nat)} {dC : Nat → ClassId} {dI : Nat → Nat → Nat} {cy : Nat → ClassId} {A : Nat → Prop} {ws : va_W} {nL index a n0 N' : Nat} {Ts : List Cond} {own : String} {f : Nat → Int64} {v : Int32}
    (S0 : CallFix p m c cc nL s args Ts own) (hG : GoodIn Ts (va_wsS own index yJ7_copyOf_c38d5 wsJ7_copyOf_c38d5)) (hE : xE ad A s s.heap) (hK : va_K (dC, dI) vwCl (xT cy) s) (hP : va_P (dC, dI) vwCl ws H) (hD : va_D A ws) (hS : va_S A s.heap H locs) (hA : ∀ q, s.heap.size ≤ q → A q) (q0 : Nat) (ha : ws[q0]? = some (a, .inl (cy 1, n0, .inr (.inl f)))) (hv : v = nI N') (hlt : n0 < N') (hle : N' ≤ 65536) (hfr : 1 + 1 ≤ R.frames) (hlo : 8 + (3 + 11) + 40 ≤ R.locals) (hW : (rest.map fun v => v.category).sum ≤ 8) (hsz : ls.size = nL) (hdg : decode cc pc = .ok (.invokestatic index, 3)) (hf : cells + 1 ≤ R.cells ∧ slots + N' ≤ R.slots)
    (kk : ∀ (q : Nat) (H1 : Heap) (locs1 : List Loc), va_P (dC, dI) vwCl (ws ++ [(q, .inl (cy 1, N', .inr (.inl (va_cpy f (fun _ => 0) 0 0 n0))))]) H1 → va_D A (ws ++ [(q, .inl (cy 1, N', .inr (.inl (va_cpy f (fun _ => 0) 0 0 n0))))]) → va_S A s.heap H1 locs1 → W p l e R s m args below meth c H1 locs1 (cells + 1) (slots + N') Q (F0 m (pc + 3) ls (.ref q :: rest))) : W p l e R s m args below meth c H locs cells slots Q (F0 m pc ls (.int v :: .ref a :: rest)) := by
  have hC : [q0].map (fun i => ws[i]?) = [(a, .inl (cy 1, n0, .inr (.inl f)))].map some := by simp only [List.map_cons, List.map_nil, ha]
  obtain ⟨hPc, hDc, hFc, hpre⟩ := x_cut hE hK hP hD hS hA [q0] hC rfl
  refine va_callr (va_runS (As := [.ref a, .int v]) (rest := rest) S0 (mcpoJ l ad dC dI cy a H.size n0 f v N' hv hlt hle) (va_cwS 2 S0.2.2.2.2 hG rfl rfl rfl (by decide +kernel) ⟨hfr, hlo⟩) ⟨x_blind, fun U hU hW => hpre _ U hU hW⟩ rfl rfl hsz rfl (lv_room hW) hdg hf) hS (fun q _ h => hFc q h) hFc (fun u q t H1 locs1 ht hvm hw hB hz1 hk1 hS1 => ?_)
  obtain ⟨hP1, hK1, hD1⟩ := hB
  have hP2 : va_P (dC, dI) vwCl ws H1 := x_back0 (u := ()) hP hD [q0] hC ht ⟨_, rfl, hP1.sub [0] rfl, hK1, hD1.sub [0] (by decide) rfl⟩ hk1
  rw [ht] at hP1
  have hnew : H.size ≤ q := by
    rcases hD1.2 1 _ rfl with ⟨k, e9, h9⟩ | h9
    · cases k with
      | zero => cases h9; exact absurd (hD1.1 0 1 _ _ rfl rfl rfl) (by decide)
      | succ k => simp at h9
    · exact h9
  refine kk q H1 locs1 (hP2.app (hP1.sub [1] rfl)) (hD.app ((hD1.sub [1] (by decide) rfl).weaken (fun _ q _ h => hFc q.1 h)) (fun i j x y hx hy hxy => ?_)) hS1
  have h8 := (hP i x hx).lt
  cases j with
  | zero => cases hy; have h7 : x.1 = q := hxy; omega
  | succ j => simp at hy
