theorem hdX0_states : yX0_states.cls = RX0 ∧ yX0_states.cls ≠ "java/lang/invoke/MethodHandle" ∧ yX0_states.cls ≠ "java/lang/invoke/VarHandle" ∧ (parseMethodDescriptor yX0_states.desc).map (fun d => d.parameters.length) = some 0 := by decide +kernel
set_option maxHeartbeats 4000000 in
set_option maxRecDepth 100000 in
theorem kX0_states (ln : Launch) (dg : va_G) (tq : ClassId × ClassId) (b0 b1 : Nat) (st nx : Nat) (hc : Row) : MR ln yX0_states wsX0_states (rmm 0 0) dg tq [.ref b0] [(b0, .inr (0, [.ref b1, .int (nI st), .int (nI nx)])), (b1, .inl (tq.1, 7365, .inl hc))] (fun r => r = (nI st)) := by
  refine MR.enter cX0_states 1 .int (by decide) rfl rfl (Nat.le_of_ble_eq_true rfl) ?_
  intro pP eE sS mM aA bB mT cC QQ AA hA hAT hret H locs hP hS ls hl
  obtain ⟨hx, hb, hml, hown, hts, hK, hN⟩ := hAT
  have hown : sS.vm.findClass RX0 = some mM.cls := hown
  have hl : lv_has ls 1 [(0, .ref b0)] := hl
  have in0 : ∀ w ∈ u_ws RX0 TX0 3, w ∈ wsX0_states := (fun _ h9 => List.mem_cons_of_mem _ (List.mem_append_right _ h9))
  have f15 := hts (.fieldLink RX0 15 "OrphanChain$History" "states" "I") (List.mem_of_getElem? (i := 1) rfl)
  refine lv_aload_n hx hb dX0_states_0 rfl (lv_at hl 0 rfl) ?_
  refine va_get (D := dg) (ci := 0) (v := .int (nI st)) (C := RX0) (T := TX0) (N := 3) hx hb hts in0 hown hK hP 0 rfl rfl 1 (by decide) f15 (fun _ h9 => h9) rfl dX0_states_1 ?_
  exact hret (nI st) H locs _ ls (rfl) rfl hS dX0_states_4
theorem hdX0_remember : yX0_remember.cls = RX0 ∧ yX0_remember.cls ≠ "java/lang/invoke/MethodHandle" ∧ yX0_remember.cls ≠ "java/lang/invoke/VarHandle" ∧ (parseMethodDescriptor yX0_remember.desc).map (fun d => d.parameters.length) = some 1 := by decide +kernel
set_option maxHeartbeats 4000000 in
set_option maxRecDepth 100000 in
theorem kX0_remember (ln : Launch) (dg : va_G) (tq : ClassId × ClassId) (b0 b1 : Nat) (st nx : Nat) (hc : Row) (h0 h1 : Nat) (c : Row) (hst : st ≤ 5) (hnx : nx < 5) : MV ln yX0_remember wsX0_remember (rmm 2 48) dg tq [.ref b0, .ref h0] [(b0, .inr (0, [.ref b1, .int (nI st), .int (nI nx)])), (b1, .inl (tq.1, 7365, .inl hc)), (h0, .inr (1, [.ref h1])), (h1, .inl (tq.1, 1473, .inl c))] (fun (u : Unit) => True) (fun u => [(b0, .inr (0, [.ref b1, .int (nI (recN st)), .int (nI ((nx + 1) % 5))])), (b1, .inl (tq.1, 7365, .inl (va_cpy c hc 0 (nx * 1473) 1473))), (h0, .inr (1, [.ref h1])), (h1, .inl (tq.1, 1473, .inl c))]) := by
  refine MV.enter cX0_remember 2 (by decide) rfl rfl (Nat.le_of_ble_eq_true rfl) ?_
  intro pP eE sS mM aA bB mT cC QQ AA hA hAT hret H locs hP hD hS ls hl
  obtain ⟨hx, hb, hml, hown, hts, hK, hN⟩ := hAT
  have hown : sS.vm.findClass RX0 = some mM.cls := hown
  have hl : lv_has ls 2 [(0, .ref b0), (1, .ref h0)] := hl
  have in0 : ∀ w ∈ u_ws RX0 TX0 3, w ∈ wsX0_remember := (fun _ h9 => List.mem_cons_of_mem _ (List.mem_append_left _ (List.mem_append_right _ h9)))
  have f9 := hts (.fieldLink RX0 9 "OrphanChain$History" "cells" "[I") (List.mem_of_getElem? (i := 1) rfl)
  have f19 := hts (.fieldLink RX0 19 "OrphanChain$History" "next" "I") (List.mem_of_getElem? (i := 2) rfl)
  have f15 := hts (.fieldLink RX0 15 "OrphanChain$History" "states" "I") (List.mem_of_getElem? (i := 3) rfl)
  have k28 := hts (.methodLink RX0 28 Lib.Math.min.name) (List.mem_of_getElem? (i := 4) rfl)
  have msmin := hts (.static Lib.Math.min.name) (List.mem_of_getElem? (i := 5) rfl)
  have mi := hts (.initialized "java/lang/Math") (List.mem_of_getElem? (i := 6) rfl)
  have mcmin := hts (.code Lib.Math.min.name Lib.Math.min.code 2 (some .int)) (List.mem_of_getElem? (i := 7) rfl)
  refine lv_aload_n hx hb dX0_remember_0 rfl (lv_at hl 1 rfl) ?_
  refine lv_aload_n hx hb dX0_remember_1 rfl (lv_at hl 0 rfl) ?_
  refine va_get (D := dg) (ci := 0) (v := .ref b1) (C := RX0) (T := TX0) (N := 3) hx hb hts in0 hown hK hP 0 rfl rfl 0 (by decide) f9 (fun _ h9 => h9) rfl dX0_remember_2 ?_
  refine lv_aload_n hx hb dX0_remember_5 rfl (lv_at hl 0 rfl) ?_
  refine va_get (D := dg) (ci := 0) (v := .int (nI nx)) (C := RX0) (T := TX0) (N := 3) hx hb hts in0 hown hK hP 0 rfl rfl 2 (by decide) f19 (fun _ h9 => h9) rfl dX0_remember_6 ?_
  refine lv_sipush (v := (nI 1473)) hx hb dX0_remember_9 (by decide) ?_
  refine r_imul_n hx hb dX0_remember_12 ?_
  refine call_v (wr := [(b0, .inr (0, [.ref b1, .int (nI st), .int (nI nx)]))]) (va_runV (As := [.ref b1, .int (nI (nx * 1473))]) (rest := []) ⟨hx, hb, hml, hown, hts⟩ (kX1_copyTo ln dg tq (h0 := h0) (h1 := h1) (t0 := b1) (c := c) (hc := hc) (st := nx * 1473) (hst := (by omega)) H.size) (cwV 2 hts gX0_remember_X1_copyTo rfl rfl rfl hdX1_copyTo ⟨Nat.le_of_ble_eq_true rfl, Nat.le_of_ble_eq_true rfl⟩) (preVB hK hN hP hD [2, 3, 1] rfl rfl rfl 2 rfl rfl [.ref b1, .int (nI (nx * 1473))]) rfl rfl hl.1 rfl (lv_room (Nat.le_of_ble_eq_true rfl)) dX0_remember_13 ⟨Nat.le_refl _, Nat.le_refl _⟩) hP hD hS hA [2, 3, 1] [0] rfl rfl (by decide) (by decide) (fun u13 H locs hw13 hP hD hS => ?_)
  have hP : va_P dg vwCl [(b0, .inr (0, [.ref b1, .int (nI st), .int (nI nx)])), (h0, .inr (1, [.ref h1])), (h1, .inl (tq.1, 1473, .inl c)), (b1, .inl (tq.1, 7365, .inl (va_cpy c hc 0 (nx * 1473) 1473)))] H := hP
  have hD : va_D AA [(b0, .inr (0, [.ref b1, .int (nI st), .int (nI nx)])), (h0, .inr (1, [.ref h1])), (h1, .inl (tq.1, 1473, .inl c)), (b1, .inl (tq.1, 7365, .inl (va_cpy c hc 0 (nx * 1473) 1473)))] := hD
  refine lv_aload_n hx hb dX0_remember_16 rfl (lv_at hl 0 rfl) ?_
  refine lv_aload_n hx hb dX0_remember_17 rfl (lv_at hl 0 rfl) ?_
  refine va_get (D := dg) (ci := 0) (v := .int (nI nx)) (C := RX0) (T := TX0) (N := 3) hx hb hts in0 hown hK hP 0 rfl rfl 2 (by decide) f19 (fun _ h9 => h9) rfl dX0_remember_18 ?_
  refine lv_iconst (v := (nI 1)) hx hb dX0_remember_21 (by decide) ?_
  refine r_iadd_n hx hb dX0_remember_22 ?_
  refine lv_iconst (v := (nI 5)) hx hb dX0_remember_23 (by decide) ?_
  refine lv_irem hx hb dX0_remember_24 (by decide) ?_
  refine r_top (show ((nI (nx + 1)) - (nI (nx + 1)) / (nI 5) * (nI 5)) = (nI ((nx + 1) % 5)) from pk_rem (by omega) (by omega) (by omega)) ?_
  refine va_put (D := dg) (ci := 0) (v := .int (nI ((nx + 1) % 5))) (ty := .int) (C := RX0) (T := TX0) (N := 3) hx hb hts in0 tyX0 tyX0_ok nmX0 hown hK hP hD hS 0 rfl rfl 2 (by decide) f19 (fun _ h9 => h9) rfl (by decide +kernel) rfl rfl (Nat.le_of_ble_eq_true rfl) dX0_remember_25 (fun H locs hP hD hS => ?_)
  have hP : va_P dg vwCl [(b0, .inr (0, [.ref b1, .int (nI st), .int (nI ((nx + 1) % 5))])), (h0, .inr (1, [.ref h1])), (h1, .inl (tq.1, 1473, .inl c)), (b1, .inl (tq.1, 7365, .inl (va_cpy c hc 0 (nx * 1473) 1473)))] H := hP
  have hD : va_D AA [(b0, .inr (0, [.ref b1, .int (nI st), .int (nI ((nx + 1) % 5))])), (h0, .inr (1, [.ref h1])), (h1, .inl (tq.1, 1473, .inl c)), (b1, .inl (tq.1, 7365, .inl (va_cpy c hc 0 (nx * 1473) 1473)))] := hD
  refine lv_aload_n hx hb dX0_remember_28 rfl (lv_at hl 0 rfl) ?_
  refine lv_aload_n hx hb dX0_remember_29 rfl (lv_at hl 0 rfl) ?_
  refine va_get (D := dg) (ci := 0) (v := .int (nI st)) (C := RX0) (T := TX0) (N := 3) hx hb hts in0 hown hK hP 0 rfl rfl 1 (by decide) f15 (fun _ h9 => h9) rfl dX0_remember_30 ?_
  refine lv_iconst (v := (nI 1)) hx hb dX0_remember_33 (by decide) ?_
  refine r_iadd_n hx hb dX0_remember_34 ?_
  refine lv_iconst (v := (nI 5)) hx hb dX0_remember_35 (by decide) ?_
  refine va_mmin hx hb (hml.trans hl.1.symm) hown k28 msmin mi mcmin (Nat.le_of_ble_eq_true rfl) (Nat.le_of_ble_eq_true rfl) (Nat.le_refl _) (Nat.le_refl _) dX0_remember_36 ?_
  refine r_top (show (if (nI 5) < (nI (st + 1)) then (nI 5) else (nI (st + 1))) = (nI (recN st)) from min_5 (by omega)) ?_
  refine va_put (D := dg) (ci := 0) (v := .int (nI (recN st))) (ty := .int) (C := RX0) (T := TX0) (N := 3) hx hb hts in0 tyX0 tyX0_ok nmX0 hown hK hP hD hS 0 rfl rfl 1 (by decide) f15 (fun _ h9 => h9) rfl (by decide +kernel) rfl rfl (Nat.le_of_ble_eq_true rfl) dX0_remember_39 (fun H locs hP hD hS => ?_)
  have hP : va_P dg vwCl [(b0, .inr (0, [.ref b1, .int (nI (recN st)), .int (nI ((nx + 1) % 5))])), (h0, .inr (1, [.ref h1])), (h1, .inl (tq.1, 1473, .inl c)), (b1, .inl (tq.1, 7365, .inl (va_cpy c hc 0 (nx * 1473) 1473)))] H := hP
  have hD : va_D AA [(b0, .inr (0, [.ref b1, .int (nI (recN st)), .int (nI ((nx + 1) % 5))])), (h0, .inr (1, [.ref h1])), (h1, .inl (tq.1, 1473, .inl c)), (b1, .inl (tq.1, 7365, .inl (va_cpy c hc 0 (nx * 1473) 1473)))] := hD
  exact hret (()) H locs _ ls (trivial) (hP.sub [0, 3, 1, 2] rfl) (hD.sub [0, 3, 1, 2] (by decide) rfl) hS dX0_remember_42
theorem hdX0_bringBack : yX0_bringBack.cls = RX0 ∧ yX0_bringBack.cls ≠ "java/lang/invoke/MethodHandle" ∧ yX0_bringBack.cls ≠ "java/lang/invoke/VarHandle" ∧ (parseMethodDescriptor yX0_bringBack.desc).map (fun d => d.parameters.length) = some 1 := by decide +kernel
set_option maxHeartbeats 4000000 in
set_option maxRecDepth 100000 in
theorem kX0_bringBack (ln : Launch) (dg : va_G) (tq : ClassId × ClassId) (b0 b1 : Nat) (st nx : Nat) (hc : Row) (h0 h1 : Nat) (c : Row) (hst : st ≤ 5) (hnx : nx < 5) (hs0 : 0 < st) : MV ln yX0_bringBack wsX0_bringBack (rmm 2 48) dg tq [.ref b0, .ref h0] [(b0, .inr (0, [.ref b1, .int (nI st), .int (nI nx)])), (b1, .inl (tq.1, 7365, .inl hc)), (h0, .inr (1, [.ref h1])), (h1, .inl (tq.1, 1473, .inl c))] (fun (u : Unit) => True) (fun u => [(b0, .inr (0, [.ref b1, .int (nI (st - 1)), .int (nI ((nx + 5 - 1) % 5))])), (b1, .inl (tq.1, 7365, .inl hc)), (h0, .inr (1, [.ref h1])), (h1, .inl (tq.1, 1473, .inl (va_cpy hc c ((nx + 5 - 1) % 5 * 1473) 0 1473)))]) := by
  refine MV.enter cX0_bringBack 2 (by decide) rfl rfl (Nat.le_of_ble_eq_true rfl) ?_
  intro pP eE sS mM aA bB mT cC QQ AA hA hAT hret H locs hP hD hS ls hl
  obtain ⟨hx, hb, hml, hown, hts, hK, hN⟩ := hAT
  have hown : sS.vm.findClass RX0 = some mM.cls := hown
  have hl : lv_has ls 2 [(0, .ref b0), (1, .ref h0)] := hl
  have in0 : ∀ w ∈ u_ws RX0 TX0 3, w ∈ wsX0_bringBack := (fun _ h9 => List.mem_cons_of_mem _ (List.mem_append_left _ (List.mem_append_right _ h9)))
  have f15 := hts (.fieldLink RX0 15 "OrphanChain$History" "states" "I") (List.mem_of_getElem? (i := 1) rfl)
  have f19 := hts (.fieldLink RX0 19 "OrphanChain$History" "next" "I") (List.mem_of_getElem? (i := 2) rfl)
  have f9 := hts (.fieldLink RX0 9 "OrphanChain$History" "cells" "[I") (List.mem_of_getElem? (i := 3) rfl)
  refine lv_aload_n hx hb dX0_bringBack_0 rfl (lv_at hl 0 rfl) ?_
  refine va_get (D := dg) (ci := 0) (v := .int (nI st)) (C := RX0) (T := TX0) (N := 3) hx hb hts in0 hown hK hP 0 rfl rfl 1 (by decide) f15 (fun _ h9 => h9) rfl dX0_bringBack_1 ?_
  refine r_if_le (tgt := 47) hx hb (nI_tI (by omega)) dX0_bringBack_4 (by decide) (fun c4 => False.elim (by omega)) (fun c4 => ?_)
  refine lv_aload_n hx hb dX0_bringBack_7 rfl (lv_at hl 0 rfl) ?_
  refine lv_aload_n hx hb dX0_bringBack_8 rfl (lv_at hl 0 rfl) ?_
  refine va_get (D := dg) (ci := 0) (v := .int (nI nx)) (C := RX0) (T := TX0) (N := 3) hx hb hts in0 hown hK hP 0 rfl rfl 2 (by decide) f19 (fun _ h9 => h9) rfl dX0_bringBack_9 ?_
  refine lv_iconst (v := (nI 5)) hx hb dX0_bringBack_12 (by decide) ?_
  refine r_iadd_n hx hb dX0_bringBack_13 ?_
  refine lv_iconst (v := (nI 1)) hx hb dX0_bringBack_14 (by decide) ?_
  refine r_isub_n hx hb (by omega) dX0_bringBack_15 ?_
  refine lv_iconst (v := (nI 5)) hx hb dX0_bringBack_16 (by decide) ?_
  refine lv_irem hx hb dX0_bringBack_17 (by decide) ?_
  refine r_top (show ((nI ((nx + 5) - 1)) - (nI ((nx + 5) - 1)) / (nI 5) * (nI 5)) = (nI ((nx + 5 - 1) % 5)) from pk_rem (by omega) (by omega) (by omega)) ?_
  refine va_put (D := dg) (ci := 0) (v := .int (nI ((nx + 5 - 1) % 5))) (ty := .int) (C := RX0) (T := TX0) (N := 3) hx hb hts in0 tyX0 tyX0_ok nmX0 hown hK hP hD hS 0 rfl rfl 2 (by decide) f19 (fun _ h9 => h9) rfl (by decide +kernel) rfl rfl (Nat.le_of_ble_eq_true rfl) dX0_bringBack_18 (fun H locs hP hD hS => ?_)
  have hP : va_P dg vwCl [(b0, .inr (0, [.ref b1, .int (nI st), .int (nI ((nx + 5 - 1) % 5))])), (b1, .inl (tq.1, 7365, .inl hc)), (h0, .inr (1, [.ref h1])), (h1, .inl (tq.1, 1473, .inl c))] H := hP
  have hD : va_D AA [(b0, .inr (0, [.ref b1, .int (nI st), .int (nI ((nx + 5 - 1) % 5))])), (b1, .inl (tq.1, 7365, .inl hc)), (h0, .inr (1, [.ref h1])), (h1, .inl (tq.1, 1473, .inl c))] := hD
  refine lv_aload_n hx hb dX0_bringBack_21 rfl (lv_at hl 0 rfl) ?_
  refine lv_dup hx hb dX0_bringBack_22 rfl ?_
  refine va_get (D := dg) (ci := 0) (v := .int (nI st)) (C := RX0) (T := TX0) (N := 3) hx hb hts in0 hown hK hP 0 rfl rfl 1 (by decide) f15 (fun _ h9 => h9) rfl dX0_bringBack_23 ?_
  refine lv_iconst (v := (nI 1)) hx hb dX0_bringBack_26 (by decide) ?_
  refine r_isub_n hx hb (by omega) dX0_bringBack_27 ?_
  refine va_put (D := dg) (ci := 0) (v := .int (nI (st - 1))) (ty := .int) (C := RX0) (T := TX0) (N := 3) hx hb hts in0 tyX0 tyX0_ok nmX0 hown hK hP hD hS 0 rfl rfl 1 (by decide) f15 (fun _ h9 => h9) rfl (by decide +kernel) rfl rfl (Nat.le_of_ble_eq_true rfl) dX0_bringBack_28 (fun H locs hP hD hS => ?_)
  have hP : va_P dg vwCl [(b0, .inr (0, [.ref b1, .int (nI (st - 1)), .int (nI ((nx + 5 - 1) % 5))])), (b1, .inl (tq.1, 7365, .inl hc)), (h0, .inr (1, [.ref h1])), (h1, .inl (tq.1, 1473, .inl c))] H := hP
  have hD : va_D AA [(b0, .inr (0, [.ref b1, .int (nI (st - 1)), .int (nI ((nx + 5 - 1) % 5))])), (b1, .inl (tq.1, 7365, .inl hc)), (h0, .inr (1, [.ref h1])), (h1, .inl (tq.1, 1473, .inl c))] := hD
  refine lv_aload_n hx hb dX0_bringBack_31 rfl (lv_at hl 1 rfl) ?_
  refine lv_aload_n hx hb dX0_bringBack_32 rfl (lv_at hl 0 rfl) ?_
  refine va_get (D := dg) (ci := 0) (v := .ref b1) (C := RX0) (T := TX0) (N := 3) hx hb hts in0 hown hK hP 0 rfl rfl 0 (by decide) f9 (fun _ h9 => h9) rfl dX0_bringBack_33 ?_
  refine lv_aload_n hx hb dX0_bringBack_36 rfl (lv_at hl 0 rfl) ?_
  refine va_get (D := dg) (ci := 0) (v := .int (nI ((nx + 5 - 1) % 5))) (C := RX0) (T := TX0) (N := 3) hx hb hts in0 hown hK hP 0 rfl rfl 2 (by decide) f19 (fun _ h9 => h9) rfl dX0_bringBack_37 ?_
  refine lv_sipush (v := (nI 1473)) hx hb dX0_bringBack_40 (by decide) ?_
  refine r_imul_n hx hb dX0_bringBack_43 ?_
  refine call_v (wr := [(b0, .inr (0, [.ref b1, .int (nI (st - 1)), .int (nI ((nx + 5 - 1) % 5))]))]) (va_runV (As := [.ref b1, .int (nI (((nx + 5 - 1) % 5) * 1473))]) (rest := []) ⟨hx, hb, hml, hown, hts⟩ (kX1_copyFrom ln dg tq (h0 := h0) (h1 := h1) (t0 := b1) (c := c) (hc := hc) (st := ((nx + 5 - 1) % 5) * 1473) (hst := (by omega)) H.size) (cwV 2 hts gX0_bringBack_X1_copyFrom rfl rfl rfl hdX1_copyFrom ⟨Nat.le_of_ble_eq_true rfl, Nat.le_of_ble_eq_true rfl⟩) (preVB hK hN hP hD [2, 3, 1] rfl rfl rfl 2 rfl rfl [.ref b1, .int (nI (((nx + 5 - 1) % 5) * 1473))]) rfl rfl hl.1 rfl (lv_room (Nat.le_of_ble_eq_true rfl)) dX0_bringBack_44 ⟨Nat.le_refl _, Nat.le_refl _⟩) hP hD hS hA [2, 3, 1] [0] rfl rfl (by decide) (by decide) (fun u44 H locs hw44 hP hD hS => ?_)
  have hP : va_P dg vwCl [(b0, .inr (0, [.ref b1, .int (nI (st - 1)), .int (nI ((nx + 5 - 1) % 5))])), (h0, .inr (1, [.ref h1])), (h1, .inl (tq.1, 1473, .inl (va_cpy hc c (((nx + 5 - 1) % 5) * 1473) 0 1473))), (b1, .inl (tq.1, 7365, .inl hc))] H := hP
  have hD : va_D AA [(b0, .inr (0, [.ref b1, .int (nI (st - 1)), .int (nI ((nx + 5 - 1) % 5))])), (h0, .inr (1, [.ref h1])), (h1, .inl (tq.1, 1473, .inl (va_cpy hc c (((nx + 5 - 1) % 5) * 1473) 0 1473))), (b1, .inl (tq.1, 7365, .inl hc))] := hD
  exact hret (()) H locs _ ls (trivial) (hP.sub [0, 3, 1, 2] rfl) (hD.sub [0, 3, 1, 2] (by decide) rfl) hS dX0_bringBack_47
theorem hdX6_length : yX6_length.cls = RX6 ∧ yX6_length.cls ≠ "java/lang/invoke/MethodHandle" ∧ yX6_length.cls ≠ "java/lang/invoke/VarHandle" ∧ (parseMethodDescriptor yX6_length.desc).map (fun d => d.parameters.length) = some 0 := by decide +kernel
set_option maxHeartbeats 4000000 in
set_option maxRecDepth 100000 in
theorem kX6_length (ln : Launch) (dg : va_G) (tq : ClassId × ClassId) (t0 t1 : Nat) (tl : Nat) (tx : Row) : MR ln yX6_length wsX6_length (rmm 0 0) dg tq [.ref t0] [(t0, .inr (6, [.ref t1, .int (nI tl)])), (t1, .inl (tq.1, 100, .inl tx))] (fun r => r = (nI tl)) := by
  refine MR.enter cX6_length 1 .int (by decide) rfl rfl (Nat.le_of_ble_eq_true rfl) ?_
  intro pP eE sS mM aA bB mT cC QQ AA hA hAT hret H locs hP hS ls hl
  obtain ⟨hx, hb, hml, hown, hts, hK, hN⟩ := hAT
  have hown : sS.vm.findClass RX6 = some mM.cls := hown
  have hl : lv_has ls 1 [(0, .ref t0)] := hl
  have in6 : ∀ w ∈ u_ws RX6 TX6 2, w ∈ wsX6_length := (fun _ h9 => List.mem_cons_of_mem _ (List.mem_append_right _ h9))
  have f15 := hts (.fieldLink RX6 15 "OrphanChain$Text" "length" "I") (List.mem_of_getElem? (i := 1) rfl)
  refine lv_aload_n hx hb dX6_length_0 rfl (lv_at hl 0 rfl) ?_
  refine va_get (D := dg) (ci := 6) (v := .int (nI tl)) (C := RX6) (T := TX6) (N := 2) hx hb hts in6 hown hK hP 0 rfl rfl 1 (by decide) f15 (fun _ h9 => h9) rfl dX6_length_1 ?_
  exact hret (nI tl) H locs _ ls (rfl) rfl hS dX6_length_4
