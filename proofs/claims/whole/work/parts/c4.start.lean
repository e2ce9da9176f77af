theorem dfX6 : ∀ j, j < 11 → defaultValue (tyX6 j) = vp_V [.null, .null, .null, .int (0 : Int32), .null, .null, .null, .null, .null, .null, .int (0 : Int32)] j := by
  intro j hj
  rcases (show j = 0 ∨ j = 1 ∨ j = 2 ∨ j = 3 ∨ j = 4 ∨ j = 5 ∨ j = 6 ∨ j = 7 ∨ j = 8 ∨ j = 9 ∨ j = 10 by omega) with rfl | rfl | rfl | rfl | rfl | rfl | rfl | rfl | rfl | rfl | rfl <;> rfl
theorem dfX7 : ∀ j, j < 41 → defaultValue (tyX7 j) = vp_V [.int (0 : Int32), .null, .null, .null, .null, .int (0 : Int32), .int (0 : Int32), .int (0 : Int32), .int (0 : Int32), .int (0 : Int32), .long (0 : Int64), .long (0 : Int64), .int (0 : Int32), .int (0 : Int32), .int (0 : Int32), .null, .long (0 : Int64), .long (0 : Int64), .int (0 : Int32), .long (0 : Int64), .null, .null, .null, .null, .int (0 : Int32), .long (0 : Int64), .long (0 : Int64), .int (0 : Int32), .int (0 : Int32), .int (0 : Int32), .int (0 : Int32), .null, .null, .null, .long (0 : Int64), .long (0 : Int64), .long (0 : Int64), .int (0 : Int32), .null, .null, .null] j := by
  intro j hj
  rcases (show j = 0 ∨ j = 1 ∨ j = 2 ∨ j = 3 ∨ j = 4 ∨ j = 5 ∨ j = 6 ∨ j = 7 ∨ j = 8 ∨ j = 9 ∨ j = 10 ∨ j = 11 ∨ j = 12 ∨ j = 13 ∨ j = 14 ∨ j = 15 ∨ j = 16 ∨ j = 17 ∨ j = 18 ∨ j = 19 ∨ j = 20 ∨ j = 21 ∨ j = 22 ∨ j = 23 ∨ j = 24 ∨ j = 25 ∨ j = 26 ∨ j = 27 ∨ j = 28 ∨ j = 29 ∨ j = 30 ∨ j = 31 ∨ j = 32 ∨ j = 33 ∨ j = 34 ∨ j = 35 ∨ j = 36 ∨ j = 37 ∨ j = 38 ∨ j = 39 ∨ j = 40 by omega) with rfl | rfl | rfl | rfl | rfl | rfl | rfl | rfl | rfl | rfl | rfl | rfl | rfl | rfl | rfl | rfl | rfl | rfl | rfl | rfl | rfl | rfl | rfl | rfl | rfl | rfl | rfl | rfl | rfl | rfl | rfl | rfl | rfl | rfl | rfl | rfl | rfl | rfl | rfl | rfl | rfl <;> rfl
theorem at_rangeL (W Z : va_W) : (List.range' 0 W.length).map (fun i => (W ++ Z)[i]?) = W.map some := by
  rw [← at_range W]
  refine List.map_congr_left (fun i hi => ?_)
  have := (List.mem_range'_1.mp hi).2
  exact List.getElem?_append_left (by omega)
theorem at_last (W : va_W) (x : Nat × va_E) : [W.length].map (fun i => (W ++ [x])[i]?) = [x].map some := by
  show [(W ++ [x])[W.length]?] = [some x]
  rw [List.getElem?_append_right (Nat.le_refl _), Nat.sub_self]
  rfl
theorem all_last (n : Nat) : (List.range' 0 n).all (fun i => !([n].contains i)) = true := by
  rw [List.all_eq_true]
  intro i hi
  have := (List.mem_range'_1.mp hi).2
  have hne : ¬ i = n := by omega
  simp [hne]
theorem qlX6_init : yX6_init.cls = RX6 ∧ yX6_init.cls ≠ "java/lang/invoke/MethodHandle" ∧ yX6_init.cls ≠ "java/lang/invoke/VarHandle" ∧ (parseMethodDescriptor yX6_init.desc).map (fun d => d.parameters.length) = some 0 := by decide +kernel
theorem qlX7_init : yX7_init.cls = RX7 ∧ yX7_init.cls ≠ "java/lang/invoke/MethodHandle" ∧ yX7_init.cls ≠ "java/lang/invoke/VarHandle" ∧ (parseMethodDescriptor yX7_init.desc).map (fun d => d.parameters.length) = some 0 := by decide +kernel
set_option maxHeartbeats 4000000 in
set_option maxRecDepth 100000 in
/-- THE LAW, from its entry -/
theorem whole_start {p : Program} {e : Env} {s : State} {m : MethodId} {below : List Frame} {meth : Method} {c : Code} (l : Launch) (hflags : l.flags = flags0) {b L : Nat} {xs : Nat → Int32} (hL : L ≤ 2560) (C0 : lw_At p s m meth c b L xs) : W p l e room_1 s m #[Value.ref b] below meth c s.heap [] 0 0 (lw_Z below #[Value.ref b] s) (entryFrame m ([Value.ref b] : List Value).toArray 8) := by
  obtain ⟨hx, hb, hr, hml, hown, hts, hX, hbl, hlocks, hgv⟩ := id C0
  obtain ⟨dC, dI, cy, hK⟩ := law_K hts
  obtain ⟨ad, hE, hEx⟩ := law_env hts hgv
  have hts' : ∀ w ∈ wsL_law, w.before #[Value.ref b] s = true := fun w h => hts w (wsL_law_in w h)
  have ht1 : ∀ w ∈ wsL_law0_r1, w.before #[Value.ref b] s = true := fun w h => hts w (lin1 w h)
  have hst : l.stackTraces = false := by unfold Launch.stackTraces; rw [hflags]; decide +kernel
  replace hb : c.code = cL_law := hb
  replace hown : s.vm.findClass RL = some m.cls := hown
  have C : LCtx p s m c b L xs ad dC dI cy := ⟨hx, hb, hml, hown, hts', ht1, hX, hbl, hK, hE, hEx⟩
  have hend : ∀ (H : Heap) (ls : Array Slot), W p l e room_1 s m #[Value.ref b] below meth c H [] 601024 7293034 (lw_Z below #[Value.ref b] s) (F0 m 1168 ls [.int 1]) := fun H ls => W.base (lw_ret (Drawn.sameBut.refl s.drawn lw_cs) hx hb hr hlocks dL_law_1168)
  have hA : ∀ q : Nat, s.heap.size ≤ q → (fun q : Nat => s.heap.size ≤ q) q := fun _ h => h
  have hS : va_S (fun q : Nat => s.heap.size ≤ q) s.heap s.heap [] := va_S.rf
  have hP : va_P (dC, dI) vwCl [] s.heap := fun k q h => by simp at h
  have hD : va_D (fun q : Nat => s.heap.size ≤ q) [] := ⟨fun i j p q h => by simp at h, fun k q h => by simp at h⟩
  have hl := lv_entry ([.ref b]) (n := 8) (Nat.le_of_ble_eq_true rfl)
  rw [lg_entry_eq]
  generalize (lg_sl ([.ref b]) ++ List.replicate (8 - (lg_sl ([.ref b])).length) Slot.unset).toArray = ls at hl ⊢
  have hl : lv_has ls 8 [(0, .ref b)] := hl
  refine va_new (D := (dC, dI)) (ci := 6) (fs := [.null, .null, .null, .int (0 : Int32), .null, .null, .null, .null, .null, .null, .int (0 : Int32)]) (C := RX6) (T := TX6) (N := 11) hx hb hts uinX6 tyX6 tyX6_ok hown (hts (.classLink RL 8 RX6) (by decide +kernel)) (hts (.instantiable RX6 11) (by decide +kernel)) (hts (.initialized RX6) (by decide +kernel)) hK hP hD hS hA rfl dfX6 (Nat.le_of_ble_eq_true rfl) (Nat.le_of_ble_eq_true rfl) dL_law_0 (fun a_x H hP hD hS => ?_)
  have hP : va_P (dC, dI) vwCl [(a_x, .inr (6, [.null, .null, .null, .int (0 : Int32), .null, .null, .null, .null, .null, .null, .int (0 : Int32)]))] H := hP
  have hD : va_D (fun q : Nat => s.heap.size ≤ q) [(a_x, .inr (6, [.null, .null, .null, .int (0 : Int32), .null, .null, .null, .null, .null, .null, .int (0 : Int32)]))] := hD
  refine lv_dup hx hb dL_law_3 rfl ?_
  refine xIv (wr := []) (As := []) (rest := [.ref a_x]) ⟨hx, hb, hml, hown, hts'⟩ (bx_init l ad dC dI cy a_x H.size) (cwI 0 hts' gL_law_X6_init rfl rfl rfl (hts (.initialized RX6) (by decide +kernel)) (hts (.methodLink RL 19 yX6_init) (by decide +kernel)) (hts (.instanceMethod yX6_init) (by decide +kernel)) rfl qlX6_init.2 ⟨Nat.le_of_ble_eq_true rfl, Nat.le_of_ble_eq_true rfl⟩) hE hK hP hD hS hA [0] [] rfl rfl (by decide) (by decide) (by decide) rfl hl.1 rfl (Nat.le_of_ble_eq_true rfl) dL_law_4 ⟨Nat.le_of_ble_eq_true rfl, Nat.le_of_ble_eq_true rfl⟩ (fun σ0 wx H locs e0 hXW hP hD hS => ?_)
  replace e0 : σ0 = z_S0 := e0
  subst e0
  have hP : va_P (dC, dI) vwCl wx H := hP
  have hD : va_D (fun q : Nat => s.heap.size ≤ q) wx := hD
  refine lv_astore_n (lv' := [(1, .ref a_x), (0, .ref b)]) hx hb dL_law_7 rfl hl (by decide) rfl (fun ls hl => ?_)
  refine va_new (D := (dC, dI)) (ci := 7) (fs := [.int (0 : Int32), .null, .null, .null, .null, .int (0 : Int32), .int (0 : Int32), .int (0 : Int32), .int (0 : Int32), .int (0 : Int32), .long (0 : Int64), .long (0 : Int64), .int (0 : Int32), .int (0 : Int32), .int (0 : Int32), .null, .long (0 : Int64), .long (0 : Int64), .int (0 : Int32), .long (0 : Int64), .null, .null, .null, .null, .int (0 : Int32), .long (0 : Int64), .long (0 : Int64), .int (0 : Int32), .int (0 : Int32), .int (0 : Int32), .int (0 : Int32), .null, .null, .null, .long (0 : Int64), .long (0 : Int64), .long (0 : Int64), .int (0 : Int32), .null, .null, .null]) (C := RX7) (T := TX7) (N := 41) hx hb hts uinX7 tyX7 tyX7_ok hown (hts (.classLink RL 20 RX7) (by decide +kernel)) (hts (.instantiable RX7 41) (by decide +kernel)) (hts (.initialized RX7) (by decide +kernel)) hK hP hD hS hA rfl dfX7 (Nat.le_of_ble_eq_true rfl) (Nat.le_of_ble_eq_true rfl) dL_law_8 (fun a_m H hP hD hS => ?_)
  refine lv_dup hx hb dL_law_11 rfl ?_
  refine xIv (wr := wx) (As := []) (rest := [.ref a_m]) ⟨hx, hb, hml, hown, hts'⟩ (bm_init l ad dC dI cy a_m H.size) (cwI 0 hts' gL_law_X7_init rfl rfl rfl (hts (.initialized RX7) (by decide +kernel)) (hts (.methodLink RL 22 yX7_init) (by decide +kernel)) (hts (.instanceMethod yX7_init) (by decide +kernel)) rfl qlX7_init.2 ⟨Nat.le_of_ble_eq_true rfl, Nat.le_of_ble_eq_true rfl⟩) hE hK hP hD hS hA [wx.length] (List.range' 0 wx.length) (at_last _ _) (at_rangeL _ _) (nd_range _ _) rfl (all_last _) rfl hl.1 rfl (Nat.le_of_ble_eq_true rfl) dL_law_12 ⟨Nat.le_of_ble_eq_true rfl, Nat.le_of_ble_eq_true rfl⟩ (fun ζ0 wm H locs ez hMW hP hD hS => ?_)
  replace ez : ζ0 = (z_I0, [], (fun _ => none), 0) := ez
  subst ez
  refine lv_astore_n (lv' := [(2, .ref a_m), (1, .ref a_x), (0, .ref b)]) hx hb dL_law_15 rfl hl (by decide) rfl (fun ls hl => ?_)
  refine lv_iconst (v := 1) hx hb dL_law_16 (by decide) ?_
  refine va_newa (D := (dC, dI)) (atype := .long) (ty := .long) (N' := 1) (a0 := (1, .inr (.inl (fun _ => 0)))) hx hb (hts (.arrayClass .long) (by decide +kernel)) rfl hK hP hD hS hA (fun _ => rfl) (by decide) (by decide) (by decide) (Nat.le_of_ble_eq_true rfl) (Nat.le_of_ble_eq_true rfl) dL_law_17 (fun a_o cA H hK9 hP hD hS => ?_)
  obtain rfl : cA = cy 1 := x_same hK hK9 1 rfl
  rw [List.append_assoc] at hP hD
  refine lv_astore_n (lv' := [(3, .ref a_o), (2, .ref a_m), (1, .ref a_x), (0, .ref b)]) hx hb dL_law_19 rfl hl (by decide) rfl (fun ls hl => ?_)
  refine lv_iconst (v := 0) hx hb dL_law_20 (by decide) ?_
  refine lv_istore (lv' := [(4, .int 0), (3, .ref a_o), (2, .ref a_m), (1, .ref a_x), (0, .ref b)]) hx hb dL_law_21 hl (by decide) rfl (fun ls hl => ?_)
  exact law_loop C hL hst hend (L + 1) 0 z_S0 0 (fun _ => 0) _ H _ ls _ _ (Nat.zero_le _) (by omega) ⟨z_S0_ok, ⟨wx, wm, rfl, hXW, hMW⟩, hP, hD, hS, lv_sub hl [4, 3, 2, 1, 0] rfl, Nat.le_trans (Nat.le_of_ble_eq_true rfl) (Nat.le_add_right 200 _), Nat.le_trans (Nat.le_of_ble_eq_true rfl) (Nat.le_add_right 30000 _)⟩
