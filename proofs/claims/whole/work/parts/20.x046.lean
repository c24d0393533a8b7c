theorem hdX0_states : yX0_states.cls = RX0 ∧ yX0_states.cls ≠ "java/lang/invoke/MethodHandle" ∧ yX0_states.cls ≠ "java/lang/invoke/VarHandle" ∧ (parseMethodDescriptor yX0_states.desc).map (fun d => d.parameters.length) = some 0 := by decide +kernel
set_option maxHeartbeats 4000000 in
set_option maxRecDepth 100000 in
theorem kX0_states (ln : Launch) (dg : va_G) (tq : ClassId × ClassId) (b0 b1 : Nat) (st nx : Nat) (hc : Row) : MR ln yX0_states wsX0_states (rmm 0 0) dg tq [.ref b0] [(b0, .inr (0, [.ref b1, .int (nI st), .int (nI nx)])), (b1, .inl (tq.1, 7365, .inl hc))] (fun r => r = (nI st)) := by
  refine MR.enter cX0_states 1 .int (by decide) rfl rfl (Nat.le_of_ble_eq_true rfl) ?_
  intro pP eE sS mM aA bB mT cC QQ AA hA hAT hret H locs hP hS ls hl
  obtain ⟨hx, hb, hml, hown, hts, hK, hN⟩ := hAT
  have hown : sS.vm.findClass RX0 = some mM.cls := hown
  have hl : lv_has ls 1 [(0, .ref b0)] := hl
  have in0 : ∀ w ∈ u_ws RX0 TX0 3, w ∈ wsX0_states := (fun _ h9 => List.mem_cons_of_mem _ (List.mem_append_right _ h9))
  have f15 := hts (.fieldLink RX0 15 "OrphanChain$History" "states" "I") (List.mem_of_getElem? (i := 1) rfl)
  refine lv_aload_n hx hb dX0_states_0 rfl (lv_at hl 0 rfl) ?_
  refine va_get (D := dg) (ci := 0) (v := .int (nI st)) (C := RX0) (T := TX0) (N := 3) hx hb hts in0 hown hK hP 0 rfl rfl 1 (by decide) f15 (fun _ h9 => h9) rfl dX0_states_1 ?_
  exact hret (nI st) H locs _ ls (rfl) rfl hS dX0_states_4
theorem hdX0_remember : yX0_remember.cls = RX0 ∧ yX0_remember.cls ≠ "java/lang/invoke/MethodHandle" ∧ yX0_remember.cls ≠ "java/lang/invoke/VarHandle" ∧ (parseMethodDescriptor yX0_remember.desc).map (fun d => d.parameters.length) = some 1 := by decide +kernel
set_option maxHeartbeats 4000000 in
set_option maxRecDepth 100000 in
theorem kX0_remember (ln : Launch) (dg : va_G) (tq : ClassId × ClassId) (b0 b1 : Nat) (st nx : Nat) (hc : Row) (h0 h1 : Nat) (c : Row) (hst : st ≤ 5) (hnx : nx < 5) : MV ln yX0_remember wsX0_remember (rmm 2 48) dg tq [.ref b0, .ref h0] [(b0, .inr (0, [.ref b1, .int (nI st), .int (nI nx)])), (b1, .inl (tq.1, 7365, .inl hc)), (h0, .inr (1, [.ref h1])), (h1, .inl (tq.1, 1473, .inl c))] (fun (u : Unit) => True) (fun u => [(b0, .inr (0, [.ref b1, .int (nI (recN st)), .int (nI ((nx + 1) % 5))])), (b1, .inl (tq.1, 7365, .inl (va_cpy c hc 0 (nx * 1473) 1473))), (h0, .inr (1, [.ref h1])), (h1, .inl (tq.1, 1473, .inl c))]) := by
  refine MV.enter cX0_remember 2 (by decide) rfl rfl (Nat.le_of_ble_eq_true rfl) ?_
  intro pP eE sS mM aA bB mT cC QQ AA hA hAT hret H locs hP hD hS ls hl
  obtain ⟨hx, hb, hml, hown, hts, hK, hN⟩ := hAT
  have hown : sS.vm.findClass RX0 = some mM.cls := hown
  have hl : lv_has ls 2 [(0, .ref b0), (1, .ref h0)] := hl
  have in0 : ∀ w ∈ u_ws RX0 TX0 3, w ∈ wsX0_remember := (fun _ h9 => List.mem_cons_of_mem _ (List.mem_append_left _ (List.mem_append_right _ h9)))
  have f9 := hts (.fieldLink RX0 9 "OrphanChain$History" "cells" "[I") (List.mem_of_getElem? (i := 1) rfl)
  have f19 := hts (.fieldLink RX0 19 "OrphanChain$History" "next" "I") (List.mem_of_getElem? (i := 2) rfl)
  have f15 := hts (.fieldLink RX0 15 "OrphanChain$History" "states" "I") (List.mem_of_getElem? (i := 3) rfl)
  have k28 := hts (.methodLink RX0 28 Lib.Math.min.name) (List.mem_of_getElem? (i := 4) rfl)
  have msmin := hts (.static Lib.Math.min.name) (List.mem_of_getElem? (i := 5) rfl)
  have mi := hts (.initialized "java/lang/Math") (List.mem_of_getElem? (i := 6) rfl)
  have mcmin := hts (.code Lib.Math.min.name Lib.Math.min.code 2 (some .int)) (List.mem_of_getElem? (i := 7) rfl)
  refine lv_aload_n hx hb dX0_remember_0 rfl (lv_at hl 1 rfl) ?_
  refine lv_aload_n hx hb dX0_remember_1 rfl (lv_at hl 0 rfl) ?_
  refine va_get (D := dg) (ci := 0) (v := .ref b1) (C := RX0) (T := TX0) (N := 3) hx hb hts in0 hown hK hP 0 rfl rfl 0 (by decide) f9 (fun _ h9 => h9) rfl dX0_remember_2 ?_
  refine lv_aload_n hx hb dX0_remember_5 rfl (lv_at hl 0 rfl) ?_
  refine va_get (D := dg) (ci := 0) (v := .int (nI nx)) (C := RX0) (T := TX0) (N := 3) hx hb hts in0 hown hK hP 0 rfl rfl 2 (by decide) f19 (fun _ h9 => h9) rfl dX0_remember_6 ?_
  refine lv_sipush (v := (nI 1473)) hx hb dX0_remember_9 (by decide) ?_
  refine r_imul_n hx hb dX0_remember_12 ?_
  refine call_v (wr := [(b0, .inr (0, [.ref b1, .int (nI st), .int (nI nx)]))]) (va_runV (As := [.ref b1, .int (nI (nx * 1473))]) (rest := []) ⟨hx, hb, hml, hown, hts⟩ (kX1_copyTo ln dg tq (h0 := h0) (h1 := h1) (t0 := b1) (c := c) (hc := hc) (st := nx * 1473) (hst := (by omega)) H.size) (cwV 2 hts gX0_remember_X1_copyTo rfl rfl rfl hdX1_copyTo ⟨Nat.le_of_ble_eq_true rfl, Nat.le_of_ble_eq_true rfl⟩) (preVB hK hN hP hD [2, 3, 1] rfl rfl rfl 2 rfl rfl [.ref b1, .int (nI (nx * 1473))]) rfl rfl hl.1 rfl (lv_room (Nat.le_of_ble_eq_true rfl)) dX0_remember_13 ⟨Nat.le_refl _, Nat.le_refl _⟩) hP hD hS hA [2, 3, 1] [0] rfl rfl (by decide) (by decide) (fun u13 H locs hw13 hP hD hS => ?_)
  have hP : va_P dg vwCl [(b0, .inr (0, [.ref b1, .int (nI st), .int (nI nx)])), (h0, .inr (1, [.ref h1])), (h1, .inl (tq.1, 1473, .inl c)), (b1, .inl (tq.1, 7365, .inl (va_cpy c hc 0 (nx * 1473) 1473)))] H := hP
  have hD : va_D AA [(b0, .inr (0, [.ref b1, .int (nI st), .int (nI nx)])), (h0, .inr (1, [.ref h1])), (h1, .inl (tq.1, 1473, .inl c)), (b1, .inl (tq.1, 7365, .inl (va_cpy c hc 0 (nx * 1473) 1473)))] := hD
  refine lv_aload_n hx hb dX0_remember_16 rfl (lv_at hl 0 rfl) ?_
  refine lv_aload_n hx hb dX0_remember_17 rfl (lv_at hl 0 rfl) ?_
  refine va_get (D := dg) (ci := 0) (v := .int (nI nx)) (C := RX0) (T := TX0) (N := 3) hx hb hts in0 hown hK hP 0 rfl rfl 2 (by decide) f19 (fun _ h9 => h9) rfl dX0_remember_18 ?_
  refine lv_iconst (v := (nI 1)) hx hb dX0_remember_21 (by decide) ?_
  refine r_iadd_n hx hb dX0_remember_22 ?_
  refine lv_iconst (v := (nI 5)) hx hb dX0_remember_23 (by decide) ?_
  refine lv_irem hx hb dX0_remember_24 (by decide) ?_
  refine r_top (show ((nI (nx + 1)) - (nI (nx + 1)) / (nI 5) * (nI 5)) = (nI ((nx + 1) % 5)) from pk_rem (by omega) (by omega) (by omega)) ?_
  refine va_put (D := dg) (ci := 0) (v := .int (nI ((nx + 1) % 5))) (ty := .int) (C := RX0) (T := TX0) (N := 3) hx hb hts in0 tyX0 tyX0_ok nmX0 hown hK hP hD hS 0 rfl rfl 2 (by decide) f19 (fun _ h9 => h9) rfl (by decide +kernel) rfl rfl (Nat.le_of_ble_eq_true rfl) dX0_remember_25 (fun H locs hP hD hS => ?_)
  have hP : va_P dg vwCl [(b0, .inr (0, [.ref b1, .int (nI st), .int (nI ((nx + 1) % 5))])), (h0, .inr (1, [.ref h1])), (h1, .inl (tq.1, 1473, .inl c)), (b1, .inl (tq.1, 7365, .inl (va_cpy c hc 0 (nx * 1473) 1473)))] H := hP
  have hD : va_D AA [(b0, .inr (0, [.ref b1, .int (nI st), .int (nI ((nx + 1) % 5))])), (h0, .inr (1, [.ref h1])), (h1, .inl (tq.1, 1473, .inl c)), (b1, .inl (tq.1, 7365, .inl (va_cpy c hc 0 (nx * 1473) 1473)))] := hD
  refine lv_aload_n hx hb dX0_remember_28 rfl (lv_at hl 0 rfl) ?_
  refine lv_aload_n hx hb dX0_remember_29 rfl (lv_at hl 0 rfl) ?_
  refine va_get (D := dg) (ci := 0) (v := .int (nI st)) (C := RX0) (T := TX0) (N := 3) hx hb hts in0 hown hK hP 0 rfl rfl 1 (by decide) f15 (fun _ h9 => h9) rfl dX0_remember_30 ?_
  refine lv_iconst (v := (nI 1)) hx hb dX0_remember_33 (by decide) ?_
  refine r_iadd_n hx hb dX0_remember_34 ?_
  refine lv_iconst (v := (nI 5)) hx hb dX0_remember_35 (by decide) ?_
  refine va_mmin hx hb (hml.trans hl.1.symm) hown k28 msmin mi mcmin (Nat.le_of_ble_eq_true rfl) (Nat.le_of_ble_eq_true rfl) (Nat.le_refl _) (Nat.le_refl _) dX0_remember_36 ?_
  refine r_top (show (if (nI 5) < (nI (st + 1)) then (nI 5) else (nI (st + 1))) = (nI (recN st)) from min_5 (by omega)) ?_
  refine va_put (D := dg) (ci := 0) (v := .int (nI (recN st))) (ty := .int) (C := RX0) (T := TX0) (N := 3) hx hb hts in0 tyX0 tyX0_ok nmX0 hown hK hP hD hS 0 rfl rfl 1 (by decide) f15 (fun _ h9 => h9) rfl (by decide +kernel) rfl rfl (Nat.le_of_ble_eq_true rfl) dX0_remember_39 (fun H locs hP hD hS => ?_)
  have hP : va_P dg vwCl [(b0, .inr (0, [.ref b1, .int (nI (recN st)), .int (nI ((nx + 1) % 5))])), (h0, .inr (1, [.ref h1])), (h1, .inl (tq.1, 1473, .inl c)), (b1, .inl (tq.1, 7365, .inl (va_cpy c hc 0 (nx * 1473) 1473)))] H := hP
  have hD : va_D AA [(b0, .inr (0, [.ref b1, .int (nI (recN st)), .int (nI ((nx + 1) % 5))])), (h0, .inr (1, [.ref h1])), (h1, .inl (tq.1, 1473, .inl c)), (b1, .inl (tq.1, 7365, .inl (va_cpy c hc 0 (nx * 1473) 1473)))] := hD
  exact hret (()) H locs _ ls (trivial) (hP.sub [0, 3, 1, 2] rfl) (hD.sub [0, 3, 1, 2] (by decide) rfl) hS dX0_remember_42
theorem hdX0_bringBack : yX0_bringBack.cls = RX0 ∧ yX0_bringBack.cls ≠ "java/lang/invoke/MethodHandle" ∧ yX0_bringBack.cls ≠ "java/lang/invoke/VarHandle" ∧ (parseMethodDescriptor yX0_bringBack.desc).map (fun d => d.parameters.length) = some 1 := by decide +kernel
set_option maxHeartbeats 4000000 in
set_option maxRecDepth 100000 in
theorem kX0_bringBack (ln : Launch) (dg : va_G) (tq : ClassId × ClassId) (b0 b1 : Nat) (st nx : Nat) (hc : Row) (h0 h1 : Nat) (c : Row) (hst : st ≤ 5) (hnx : nx < 5) (hs0 : 0 < st) : MV ln yX0_bringBack wsX0_bringBack (rmm 2 48) dg tq [.ref b0, .ref h0] [(b0, .inr (0, [.ref b1, .int (nI st), .int (nI nx)])), (b1, .inl (tq.1, 7365, .inl hc)), (h0, .inr (1, [.ref h1])), (h1, .inl (tq.1, 1473, .inl c))] (fun (u : Unit) => True) (fun u => [(b0, .inr (0, [.ref b1, .int (nI (st - 1)), .int (nI ((nx + 5 - 1) % 5))])), (b1, .inl (tq.1, 7365, .inl hc)), (h0, .inr (1, [.ref h1])), (h1, .inl (tq.1, 1473, .inl (va_cpy hc c ((nx + 5 - 1) % 5 * 1473) 0 1473)))]) := by
  refine MV.enter cX0_bringBack 2 (by decide) rfl rfl (Nat.le_of_ble_eq_true rfl) ?_
  intro pP eE sS mM aA bB mT cC QQ AA hA hAT hret H locs hP hD hS ls hl
  obtain ⟨hx, hb, hml, hown, hts, hK, hN⟩ := hAT
  have hown : sS.vm.findClass RX0 = some mM.cls := hown
  have hl : lv_has ls 2 [(0, .ref b0), (1, .ref h0)] := hl
  have in0 : ∀ w ∈ u_ws RX0 TX0 3, w ∈ wsX0_bringBack := (fun _ h9 => List.mem_cons_of_mem _ (List.mem_append_left _ (List.mem_append_right _ h9)))
  have f15 := hts (.fieldLink RX0 15 "OrphanChain$History" "states" "I") (List.mem_of_getElem? (i := 1) rfl)
  have f19 := hts (.fieldLink RX0 19 "OrphanChain$History" "next" "I") (List.mem_of_getElem? (i := 2) rfl)
  have f9 := hts (.fieldLink RX0 9 "OrphanChain$History" "cells" "[I") (List.mem_of_getElem? (i := 3) rfl)
  refine lv_aload_n hx hb dX0_bringBack_0 rfl (lv_at hl 0 rfl) ?_
  refine va_get (D := dg) (ci := 0) (v := .int (nI st)) (C := RX0) (T := TX0) (N := 3) hx hb hts in0 hown hK hP 0 rfl rfl 1 (by decide) f15 (fun _ h9 => h9) rfl dX0_bringBack_1 ?_
  refine r_if_le (tgt := 47) hx hb (nI_tI (by omega)) dX0_bringBack_4 (by decide) (fun c4 => False.elim (by omega)) (fun c4 => ?_)
  refine lv_aload_n hx hb dX0_bringBack_7 rfl (lv_at hl 0 rfl) ?_
  refine lv_aload_n hx hb dX0_bringBack_8 rfl (lv_at hl 0 rfl) ?_
  refine va_get (D := dg) (ci := 0) (v := .int (nI nx)) (C := RX0) (T := TX0) (N := 3) hx hb hts in0 hown hK hP 0 rfl rfl 2 (by decide) f19 (fun _ h9 => h9) rfl dX0_bringBack_9 ?_
  refine lv_iconst (v := (nI 5)) hx hb dX0_bringBack_12 (by decide) ?_
  refine r_iadd_n hx hb dX0_bringBack_13 ?_
  refine lv_iconst (v := (nI 1)) hx hb dX0_bringBack_14 (by decide) ?_
  refine r_isub_n hx hb (by omega) dX0_bringBack_15 ?_
  refine lv_iconst (v := (nI 5)) hx hb dX0_bringBack_16 (by decide) ?_
  refine lv_irem hx hb dX0_bringBack_17 (by decide) ?_
  refine r_top (show ((nI ((nx + 5) - 1)) - (nI ((nx + 5) - 1)) / (nI 5) * (nI 5)) = (nI ((nx + 5 - 1) % 5)) from pk_rem (by omega) (by omega) (by omega)) ?_
  refine va_put (D := dg) (ci := 0) (v := .int (nI ((nx + 5 - 1) % 5))) (ty := .int) (C := RX0) (T := TX0) (N := 3) hx hb hts in0 tyX0 tyX0_ok nmX0 hown hK hP hD hS 0 rfl rfl 2 (by decide) f19 (fun _ h9 => h9) rfl (by decide +kernel) rfl rfl (Nat.le_of_ble_eq_true rfl) dX0_bringBack_18 (fun H locs hP hD hS => ?_)
  have hP : va_P dg vwCl [(b0, .inr (0, [.ref b1, .int (nI st), .int (nI ((nx + 5 - 1) % 5))])), (b1, .inl (tq.1, 7365, .inl hc)), (h0, .inr (1, [.ref h1])), (h1, .inl (tq.1, 1473, .inl c))] H := hP
  have hD : va_D AA [(b0, .inr (0, [.ref b1, .int (nI st), .int (nI ((nx + 5 - 1) % 5))])), (b1, .inl (tq.1, 7365, .inl hc)), (h0, .inr (1, [.ref h1])), (h1, .inl (tq.1, 1473, .inl c))] := hD
  refine lv_aload_n hx hb dX0_bringBack_21 rfl (lv_at hl 0 rfl) ?_
  refine lv_dup hx hb dX0_bringBack_22 rfl ?_
  refine va_get (D := dg) (ci := 0) (v := .int (nI st)) (C := RX0) (T := TX0) (N := 3) hx hb hts in0 hown hK hP 0 rfl rfl 1 (by decide) f15 (fun _ h9 => h9) rfl dX0_bringBack_23 ?_
  refine lv_iconst (v := (nI 1)) hx hb dX0_bringBack_26 (by decide) ?_
  refine r_isub_n hx hb (by omega) dX0_bringBack_27 ?_
  refine va_put (D := dg) (ci := 0) (v := .int (nI (st - 1))) (ty := .int) (C := RX0) (T := TX0) (N := 3) hx hb hts in0 tyX0 tyX0_ok nmX0 hown hK hP hD hS 0 rfl rfl 1 (by decide) f15 (fun _ h9 => h9) rfl (by decide +kernel) rfl rfl (Nat.le_of_ble_eq_true rfl) dX0_bringBack_28 (fun H locs hP hD hS => ?_)
  have hP : va_P dg vwCl [(b0, .inr (0, [.ref b1, .int (nI (st - 1)), .int (nI ((nx + 5 - 1) % 5))])), (b1, .inl (tq.1, 7365, .inl hc)), (h0, .inr (1, [.ref h1])), (h1, .inl (tq.1, 1473, .inl c))] H := hP
  have hD : va_D AA [(b0, .inr (0, [.ref b1, .int (nI (st - 1)), .int (nI ((nx + 5 - 1) % 5))])), (b1, .inl (tq.1, 7365, .inl hc)), (h0, .inr (1, [.ref h1])), (h1, .inl (tq.1, 1473, .inl c))] := hD
  refine lv_aload_n hx hb dX0_bringBack_31 rfl (lv_at hl 1 rfl) ?_
  refine lv_aload_n hx hb dX0_bringBack_32 rfl (lv_at hl 0 rfl) ?_
  refine va_get (D := dg) (ci := 0) (v := .ref b1) (C := RX0) (T := TX0) (N := 3) hx hb hts in0 hown hK hP 0 rfl rfl 0 (by decide) f9 (fun _ h9 => h9) rfl dX0_bringBack_33 ?_
  refine lv_aload_n hx hb dX0_bringBack_36 rfl (lv_at hl 0 rfl) ?_
  refine va_get (D := dg) (ci := 0) (v := .int (nI ((nx + 5 - 1) % 5))) (C := RX0) (T := TX0) (N := 3) hx hb hts in0 hown hK hP 0 rfl rfl 2 (by decide) f19 (fun _ h9 => h9) rfl dX0_bringBack_37 ?_
  refine lv_sipush (v := (nI 1473)) hx hb dX0_bringBack_40 (by decide) ?_
  refine r_imul_n hx hb dX0_bringBack_43 ?_
  refine call_v (wr := [(b0, .inr (0, [.ref b1, .int (nI (st - 1)), .int (nI ((nx + 5 - 1) % 5))]))]) (va_runV (As := [.ref b1, .int (nI (((nx + 5 - 1) % 5) * 1473))]) (rest := []) ⟨hx, hb, hml, hown, hts⟩ (kX1_copyFrom ln dg tq (h0 := h0) (h1 := h1) (t0 := b1) (c := c) (hc := hc) (st := ((nx + 5 - 1) % 5) * 1473) (hst := (by omega)) H.size) (cwV 2 hts gX0_bringBack_X1_copyFrom rfl rfl rfl hdX1_copyFrom ⟨Nat.le_of_ble_eq_true rfl, Nat.le_of_ble_eq_true rfl⟩) (preVB hK hN hP hD [2, 3, 1] rfl rfl rfl 2 rfl rfl [.ref b1, .int (nI (((nx + 5 - 1) % 5) * 1473))]) rfl rfl hl.1 rfl (lv_room (Nat.le_of_ble_eq_true rfl)) dX0_bringBack_44 ⟨Nat.le_refl _, Nat.le_refl _⟩) hP hD hS hA [2, 3, 1] [0] rfl rfl (by decide) (by decide) (fun u44 H locs hw44 hP hD hS => ?_)
  have hP : va_P dg vwCl [(b0, .inr (0, [.ref b1, .int (nI (st - 1)), .int (nI ((nx + 5 - 1) % 5))])), (h0, .inr (1, [.ref h1])), (h1, .inl (tq.1, 1473, .inl (va_cpy hc c (((nx + 5 - 1) % 5) * 1473) 0 1473))), (b1, .inl (tq.1, 7365, .inl hc))] H := hP
  have hD : va_D AA [(b0, .inr (0, [.ref b1, .int (nI (st - 1)), .int (nI ((nx + 5 - 1) % 5))])), (h0, .inr (1, [.ref h1])), (h1, .inl (tq.1, 1473, .inl (va_cpy hc c (((nx + 5 - 1) % 5) * 1473) 0 1473))), (b1, .inl (tq.1, 7365, .inl hc))] := hD
  exact hret (()) H locs _ ls (trivial) (hP.sub [0, 3, 1, 2] rfl) (hD.sub [0, 3, 1, 2] (by decide) rfl) hS dX0_bringBack_47
theorem hdX6_length : yX6_length.cls = RX6 ∧ yX6_length.cls ≠ "java/lang/invoke/MethodHandle" ∧ yX6_length.cls ≠ "java/lang/invoke/VarHandle" ∧ (parseMethodDescriptor yX6_length.desc).map (fun d => d.parameters.length) = some 0 := by decide +kernel
set_option maxHeartbeats 4000000 in
set_option maxRecDepth 100000 in
theorem kX6_length (ln : Launch) (dg : va_G) (tq : ClassId × ClassId) (t0 t1 : Nat) (tl : Nat) (tx : Row) : MR ln yX6_length wsX6_length (rmm 0 0) dg tq [.ref t0] [(t0, .inr (6, [.ref t1, .int (nI tl)])), (t1, .inl (tq.1, 100, .inl tx))] (fun r => r = (nI tl)) := by
  refine MR.enter cX6_length 1 .int (by decide) rfl rfl (Nat.le_of_ble_eq_true rfl) ?_
  intro pP eE sS mM aA bB mT cC QQ AA hA hAT hret H locs hP hS ls hl
  obtain ⟨hx, hb, hml, hown, hts, hK, hN⟩ := hAT
  have hown : sS.vm.findClass RX6 = some mM.cls := hown
  have hl : lv_has ls 1 [(0, .ref t0)] := hl
  have in6 : ∀ w ∈ u_ws RX6 TX6 2, w ∈ wsX6_length := (fun _ h9 => List.mem_cons_of_mem _ (List.mem_append_right _ h9))
  have f15 := hts (.fieldLink RX6 15 "OrphanChain$Text" "length" "I") (List.mem_of_getElem? (i := 1) rfl)
  refine lv_aload_n hx hb dX6_length_0 rfl (lv_at hl 0 rfl) ?_
  refine va_get (D := dg) (ci := 6) (v := .int (nI tl)) (C := RX6) (T := TX6) (N := 2) hx hb hts in6 hown hK hP 0 rfl rfl 1 (by decide) f15 (fun _ h9 => h9) rfl dX6_length_1 ?_
  exact hret (nI tl) H locs _ ls (rfl) rfl hS dX6_length_4
theorem hdX6_at : yX6_at.cls = RX6 ∧ yX6_at.cls ≠ "java/lang/invoke/MethodHandle" ∧ yX6_at.cls ≠ "java/lang/invoke/VarHandle" ∧ (parseMethodDescriptor yX6_at.desc).map (fun d => d.parameters.length) = some 1 := by decide +kernel
set_option maxHeartbeats 4000000 in
set_option maxRecDepth 100000 in
theorem kX6_at (ln : Launch) (dg : va_G) (tq : ClassId × ClassId) (t0 t1 : Nat) (tl : Nat) (tx : Row) (k : Nat) (hk : k < tl) (htl : tl ≤ 100) : MR ln yX6_at wsX6_at (rmm 0 0) dg tq [.ref t0, .int (nI k)] [(t0, .inr (6, [.ref t1, .int (nI tl)])), (t1, .inl (tq.1, 100, .inl tx))] (fun r => r = (tx k)) := by
  refine MR.enter cX6_at 2 .int (by decide) rfl rfl (Nat.le_of_ble_eq_true rfl) ?_
  intro pP eE sS mM aA bB mT cC QQ AA hA hAT hret H locs hP hS ls hl
  obtain ⟨hx, hb, hml, hown, hts, hK, hN⟩ := hAT
  have hown : sS.vm.findClass RX6 = some mM.cls := hown
  have hl : lv_has ls 2 [(0, .ref t0), (1, .int (nI k))] := hl
  have in6 : ∀ w ∈ u_ws RX6 TX6 2, w ∈ wsX6_at := (fun _ h9 => List.mem_cons_of_mem _ (List.mem_append_right _ h9))
  have f15 := hts (.fieldLink RX6 15 "OrphanChain$Text" "length" "I") (List.mem_of_getElem? (i := 1) rfl)
  have f9 := hts (.fieldLink RX6 9 "OrphanChain$Text" "signs" "[I") (List.mem_of_getElem? (i := 2) rfl)
  refine lv_iload_n hx hb dX6_at_0 rfl (lv_at hl 1 rfl) ?_
  refine r_if_lt (tgt := 30) hx hb (nI_tI (by omega)) dX6_at_1 (by decide) (fun c1 => False.elim (by omega)) (fun c1 => ?_)
  refine lv_iload_n hx hb dX6_at_4 rfl (lv_at hl 1 rfl) ?_
  refine lv_aload_n hx hb dX6_at_5 rfl (lv_at hl 0 rfl) ?_
  refine va_get (D := dg) (ci := 6) (v := .int (nI tl)) (C := RX6) (T := TX6) (N := 2) hx hb hts in6 hown hK hP 0 rfl rfl 1 (by decide) f15 (fun _ h9 => h9) rfl dX6_at_6 ?_
  refine r_icmp_ge (tgt := 30) hx hb (nI_tI (by omega)) (nI_tI (by omega)) dX6_at_9 (by decide) (fun c9 => False.elim (by omega)) (fun c9 => ?_)
  refine lv_iload_n hx hb dX6_at_12 rfl (lv_at hl 1 rfl) ?_
  refine lv_aload_n hx hb dX6_at_13 rfl (lv_at hl 0 rfl) ?_
  refine va_get (D := dg) (ci := 6) (v := .ref t1) (C := RX6) (T := TX6) (N := 2) hx hb hts in6 hown hK hP 0 rfl rfl 0 (by decide) f9 (fun _ h9 => h9) rfl dX6_at_14 ?_
  refine va_alen (v := (nI 100)) hx hb hK hP 1 0 rfl rfl rfl dX6_at_17 ?_
  refine r_icmp_ge (tgt := 30) hx hb (nI_tI (by omega)) (nI_tI (by omega)) dX6_at_18 (by decide) (fun c18 => False.elim (by omega)) (fun c18 => ?_)
  refine lv_aload_n hx hb dX6_at_21 rfl (lv_at hl 0 rfl) ?_
  refine va_get (D := dg) (ci := 6) (v := .ref t1) (C := RX6) (T := TX6) (N := 2) hx hb hts in6 hown hK hP 0 rfl rfl 0 (by decide) f9 (fun _ h9 => h9) rfl dX6_at_22 ?_
  refine lv_iload_n hx hb dX6_at_25 rfl (lv_at hl 1 rfl) ?_
  refine r_iald_n hx hb hK hP 1 rfl (k := k) (by omega) (by omega) dX6_at_26 ?_
  refine lv_goto (tgt := 31) hx hb dX6_at_27 (by decide) ?_
  exact hret (tx k) H locs _ ls (rfl) rfl hS dX6_at_31
theorem hdX6_add : yX6_add.cls = RX6 ∧ yX6_add.cls ≠ "java/lang/invoke/MethodHandle" ∧ yX6_add.cls ≠ "java/lang/invoke/VarHandle" ∧ (parseMethodDescriptor yX6_add.desc).map (fun d => d.parameters.length) = some 1 := by decide +kernel
set_option maxHeartbeats 4000000 in
set_option maxRecDepth 100000 in
theorem kX6_add (ln : Launch) (dg : va_G) (tq : ClassId × ClassId) (t0 t1 : Nat) (tl : Nat) (tx : Row) (v : Int32) (htl : tl < 100) : MV ln yX6_add wsX6_add (rmm 0 0) dg tq [.ref t0, .int v] [(t0, .inr (6, [.ref t1, .int (nI tl)])), (t1, .inl (tq.1, 100, .inl tx))] (fun (u : Unit) => True) (fun u => [(t0, .inr (6, [.ref t1, .int (nI (tl + 1))])), (t1, .inl (tq.1, 100, .inl (upd tx tl v)))]) := by
  refine MV.enter cX6_add 2 (by decide) rfl rfl (Nat.le_of_ble_eq_true rfl) ?_
  intro pP eE sS mM aA bB mT cC QQ AA hA hAT hret H locs hP hD hS ls hl
  obtain ⟨hx, hb, hml, hown, hts, hK, hN⟩ := hAT
  have hown : sS.vm.findClass RX6 = some mM.cls := hown
  have hl : lv_has ls 2 [(0, .ref t0), (1, .int v)] := hl
  have in6 : ∀ w ∈ u_ws RX6 TX6 2, w ∈ wsX6_add := (fun _ h9 => List.mem_cons_of_mem _ (List.mem_append_right _ h9))
  have f15 := hts (.fieldLink RX6 15 "OrphanChain$Text" "length" "I") (List.mem_of_getElem? (i := 1) rfl)
  have f9 := hts (.fieldLink RX6 9 "OrphanChain$Text" "signs" "[I") (List.mem_of_getElem? (i := 2) rfl)
  refine lv_aload_n hx hb dX6_add_0 rfl (lv_at hl 0 rfl) ?_
  refine va_get (D := dg) (ci := 6) (v := .int (nI tl)) (C := RX6) (T := TX6) (N := 2) hx hb hts in6 hown hK hP 0 rfl rfl 1 (by decide) f15 (fun _ h9 => h9) rfl dX6_add_1 ?_
  refine r_if_lt (tgt := 39) hx hb (nI_tI (by omega)) dX6_add_4 (by decide) (fun c4 => False.elim (by omega)) (fun c4 => ?_)
  refine lv_aload_n hx hb dX6_add_7 rfl (lv_at hl 0 rfl) ?_
  refine va_get (D := dg) (ci := 6) (v := .int (nI tl)) (C := RX6) (T := TX6) (N := 2) hx hb hts in6 hown hK hP 0 rfl rfl 1 (by decide) f15 (fun _ h9 => h9) rfl dX6_add_8 ?_
  refine lv_aload_n hx hb dX6_add_11 rfl (lv_at hl 0 rfl) ?_
  refine va_get (D := dg) (ci := 6) (v := .ref t1) (C := RX6) (T := TX6) (N := 2) hx hb hts in6 hown hK hP 0 rfl rfl 0 (by decide) f9 (fun _ h9 => h9) rfl dX6_add_12 ?_
  refine va_alen (v := (nI 100)) hx hb hK hP 1 0 rfl rfl rfl dX6_add_15 ?_
  refine r_icmp_ge (tgt := 39) hx hb (nI_tI (by omega)) (nI_tI (by omega)) dX6_add_16 (by decide) (fun c16 => False.elim (by omega)) (fun c16 => ?_)
  refine lv_aload_n hx hb dX6_add_19 rfl (lv_at hl 0 rfl) ?_
  refine va_get (D := dg) (ci := 6) (v := .ref t1) (C := RX6) (T := TX6) (N := 2) hx hb hts in6 hown hK hP 0 rfl rfl 0 (by decide) f9 (fun _ h9 => h9) rfl dX6_add_20 ?_
  refine lv_aload_n hx hb dX6_add_23 rfl (lv_at hl 0 rfl) ?_
  refine va_get (D := dg) (ci := 6) (v := .int (nI tl)) (C := RX6) (T := TX6) (N := 2) hx hb hts in6 hown hK hP 0 rfl rfl 1 (by decide) f15 (fun _ h9 => h9) rfl dX6_add_24 ?_
  refine lv_iload_n hx hb dX6_add_27 rfl (lv_at hl 1 rfl) ?_
  refine r_iast_n hx hb hK hP hD hS 1 rfl (k := tl) (by omega) (by omega) dX6_add_28 (fun H locs hP hD hS => ?_)
  have hP : va_P dg vwCl [(t0, .inr (6, [.ref t1, .int (nI tl)])), (t1, .inl (tq.1, 100, .inl (upd tx tl v)))] H := hP
  have hD : va_D AA [(t0, .inr (6, [.ref t1, .int (nI tl)])), (t1, .inl (tq.1, 100, .inl (upd tx tl v)))] := hD
  refine lv_aload_n hx hb dX6_add_29 rfl (lv_at hl 0 rfl) ?_
  refine lv_dup hx hb dX6_add_30 rfl ?_
  refine va_get (D := dg) (ci := 6) (v := .int (nI tl)) (C := RX6) (T := TX6) (N := 2) hx hb hts in6 hown hK hP 0 rfl rfl 1 (by decide) f15 (fun _ h9 => h9) rfl dX6_add_31 ?_
  refine lv_iconst (v := (nI 1)) hx hb dX6_add_34 (by decide) ?_
  refine r_iadd_n hx hb dX6_add_35 ?_
  refine va_put (D := dg) (ci := 6) (v := .int (nI (tl + 1))) (ty := .int) (C := RX6) (T := TX6) (N := 2) hx hb hts in6 tyX6 tyX6_ok nmX6 hown hK hP hD hS 0 rfl rfl 1 (by decide) f15 (fun _ h9 => h9) rfl (by decide +kernel) rfl rfl (Nat.le_of_ble_eq_true rfl) dX6_add_36 (fun H locs hP hD hS => ?_)
  have hP : va_P dg vwCl [(t0, .inr (6, [.ref t1, .int (nI (tl + 1))])), (t1, .inl (tq.1, 100, .inl (upd tx tl v)))] H := hP
  have hD : va_D AA [(t0, .inr (6, [.ref t1, .int (nI (tl + 1))])), (t1, .inl (tq.1, 100, .inl (upd tx tl v)))] := hD
  exact hret (()) H locs _ ls (trivial) (hP.sub [0, 1] rfl) (hD.sub [0, 1] (by decide) rfl) hS dX6_add_39
theorem hdX6_clear : yX6_clear.cls = RX6 ∧ yX6_clear.cls ≠ "java/lang/invoke/MethodHandle" ∧ yX6_clear.cls ≠ "java/lang/invoke/VarHandle" ∧ (parseMethodDescriptor yX6_clear.desc).map (fun d => d.parameters.length) = some 0 := by decide +kernel
set_option maxHeartbeats 4000000 in
set_option maxRecDepth 100000 in
theorem kX6_clear (ln : Launch) (dg : va_G) (tq : ClassId × ClassId) (t0 t1 : Nat) (tl : Nat) (tx : Row) : MV ln yX6_clear wsX6_clear (rmm 0 0) dg tq [.ref t0] [(t0, .inr (6, [.ref t1, .int (nI tl)])), (t1, .inl (tq.1, 100, .inl tx))] (fun (u : Unit) => True) (fun u => [(t0, .inr (6, [.ref t1, .int (nI 0)])), (t1, .inl (tq.1, 100, .inl tx))]) := by
  refine MV.enter cX6_clear 1 (by decide) rfl rfl (Nat.le_of_ble_eq_true rfl) ?_
  intro pP eE sS mM aA bB mT cC QQ AA hA hAT hret H locs hP hD hS ls hl
  obtain ⟨hx, hb, hml, hown, hts, hK, hN⟩ := hAT
  have hown : sS.vm.findClass RX6 = some mM.cls := hown
  have hl : lv_has ls 1 [(0, .ref t0)] := hl
  have in6 : ∀ w ∈ u_ws RX6 TX6 2, w ∈ wsX6_clear := (fun _ h9 => List.mem_cons_of_mem _ (List.mem_append_right _ h9))
  have f15 := hts (.fieldLink RX6 15 "OrphanChain$Text" "length" "I") (List.mem_of_getElem? (i := 1) rfl)
  refine lv_aload_n hx hb dX6_clear_0 rfl (lv_at hl 0 rfl) ?_
  refine lv_iconst (v := (nI 0)) hx hb dX6_clear_1 (by decide) ?_
  refine va_put (D := dg) (ci := 6) (v := .int (nI 0)) (ty := .int) (C := RX6) (T := TX6) (N := 2) hx hb hts in6 tyX6 tyX6_ok nmX6 hown hK hP hD hS 0 rfl rfl 1 (by decide) f15 (fun _ h9 => h9) rfl (by decide +kernel) rfl rfl (Nat.le_of_ble_eq_true rfl) dX6_clear_2 (fun H locs hP hD hS => ?_)
  have hP : va_P dg vwCl [(t0, .inr (6, [.ref t1, .int (nI 0)])), (t1, .inl (tq.1, 100, .inl tx))] H := hP
  have hD : va_D AA [(t0, .inr (6, [.ref t1, .int (nI 0)])), (t1, .inl (tq.1, 100, .inl tx))] := hD
  exact hret (()) H locs _ ls (trivial) (hP.sub [0, 1] rfl) (hD.sub [0, 1] (by decide) rfl) hS dX6_clear_5
theorem hdX4_isNextDigit : yX4_isNextDigit.cls = RX4 ∧ yX4_isNextDigit.cls ≠ "java/lang/invoke/MethodHandle" ∧ yX4_isNextDigit.cls ≠ "java/lang/invoke/VarHandle" ∧ (parseMethodDescriptor yX4_isNextDigit.desc).map (fun d => d.parameters.length) = some 3 := by decide +kernel
set_option maxHeartbeats 4000000 in
set_option maxRecDepth 100000 in
theorem kX4_isNextDigit (ln : Launch) (dg : va_G) (tq : ClassId × ClassId) (ch d v : Nat) (hch : ch < 1000) (hd : d < 1000) (hv : v < 100000) : MR ln yX4_isNextDigit wsX4_isNextDigit (rmm 1 22) dg tq [.int (nI ch), .int (nI d), .int (nI v)] [] (fun r => r = (bI (nd ch d v))) := by
  refine MR.enter cX4_isNextDigit 4 .boolean (by decide) rfl rfl (Nat.le_of_ble_eq_true rfl) ?_
  intro pP eE sS mM aA bB mT cC QQ AA hA hAT hret H locs hP hS ls hl
  obtain ⟨hx, hb, hml, hown, hts, hK, hN⟩ := hAT
  have hown : sS.vm.findClass RX4 = some mM.cls := hown
  have hl : lv_has ls 4 [(0, .int (nI ch)), (1, .int (nI d)), (2, .int (nI v))] := hl
  have st_X7_isWithin := hts (.static yX7_isWithin) (List.mem_of_getElem? (i := 1) rfl)
  have iRX7 := hts (.initialized RX7) (List.mem_of_getElem? (i := 2) rfl)
  refine lv_iload_n hx hb dX4_isNextDigit_0 rfl (lv_at hl 1 rfl) ?_
  refine r_if_eq (tgt := 13) hx hb (nI_tI (by omega)) dX4_isNextDigit_1 (by decide) (fun c1 => ?_) (fun c1 => ?_)
  · skip
    refine lv_iconst (v := (nI 1)) hx hb dX4_isNextDigit_13 (by decide) ?_
    refine lv_goto (tgt := 18) hx hb dX4_isNextDigit_14 (by decide) ?_
    refine lv_istore_n (lv' := [(3, .int (nI 1)), (0, .int (nI ch)), (1, .int (nI d)), (2, .int (nI v))]) hx hb dX4_isNextDigit_18 rfl hl (by decide) rfl (fun ls hl => ?_)
    refine lv_iload_n hx hb dX4_isNextDigit_19 rfl (lv_at hl 0 rfl) ?_
    refine r_if_eq (tgt := 38) hx hb (nI_tI (by omega)) dX4_isNextDigit_20 (by decide) (fun c20 => False.elim (by omega)) (fun c20 => ?_)
    refine lv_iload_n hx hb dX4_isNextDigit_23 rfl (lv_at hl 1 rfl) ?_
    refine lv_bipush (v := (nI 48)) hx hb dX4_isNextDigit_24 (by decide) ?_
    refine lv_bipush (v := (nI 57)) hx hb dX4_isNextDigit_26 (by decide) ?_
    refine call_x (va_runSN (As := [.int (nI ch), .int (nI 48), .int (nI 57)]) (rest := []) ⟨hx, hb, hml, hown, hts⟩ (kX7_isWithin ln dg tq (v := (nI ch)) (lo := (nI 48)) (hi := (nI 57)) H.size) ⟨va_cnB 3 hts gX4_isNextDigit_X7_isWithin_n40 rfl rfl rfl hN.2.2.1 iRX7 hdX7_isWithin.2 ⟨Nat.le_of_ble_eq_true rfl, Nat.le_of_ble_eq_true rfl⟩, st_X7_isWithin, trivial⟩ (preS0 hK hN [.int (nI ch), .int (nI 48), .int (nI 57)]) rfl rfl hl.1 rfl (lv_room (Nat.le_of_ble_eq_true rfl)) dX4_isNextDigit_28 ⟨Nat.le_refl _, Nat.le_refl _⟩) hP hS hA (fun H locs hP hS => ?_)
    refine r_top (show (bI (inR (nI ch) (nI 48) (nI 57))) = (bI (decide (48 ≤ ch ∧ ch ≤ 57))) from congrArg bI (inR_d (by omega) (by omega) (by omega))) ?_
    refine r_if_eq_b (tgt := 38) hx hb dX4_isNextDigit_31 (by decide) (fun c31 => ?_) (fun c31 => ?_)
    · have c31 := of_decide_eq_false c31
      refine lv_iconst (v := (nI 0)) hx hb dX4_isNextDigit_38 (by decide) ?_
      exact hret (nI 0) H locs _ ls (by first | (rw [nd_t (by omega)]; rfl) | (rw [nd_f (by omega)]; rfl)) rfl hS dX4_isNextDigit_39
    · have c31 := of_decide_eq_true c31
      refine lv_iconst (v := (nI 1)) hx hb dX4_isNextDigit_34 (by decide) ?_
      refine lv_goto (tgt := 39) hx hb dX4_isNextDigit_35 (by decide) ?_
      exact hret (nI 1) H locs _ ls (by first | (rw [nd_t (by omega)]; rfl) | (rw [nd_f (by omega)]; rfl)) rfl hS dX4_isNextDigit_39
  · skip
    refine lv_iload_n hx hb dX4_isNextDigit_4 rfl (lv_at hl 1 rfl) ?_
    refine lv_iconst (v := (nI 4)) hx hb dX4_isNextDigit_5 (by decide) ?_
    refine r_icmp_ge (tgt := 17) hx hb (nI_tI (by omega)) (nI_tI (by omega)) dX4_isNextDigit_6 (by decide) (fun c6 => ?_) (fun c6 => ?_)
    · skip
      refine lv_iconst (v := (nI 0)) hx hb dX4_isNextDigit_17 (by decide) ?_
      refine lv_istore_n (lv' := [(3, .int (nI 0)), (0, .int (nI ch)), (1, .int (nI d)), (2, .int (nI v))]) hx hb dX4_isNextDigit_18 rfl hl (by decide) rfl (fun ls hl => ?_)
      refine lv_iload_n hx hb dX4_isNextDigit_19 rfl (lv_at hl 0 rfl) ?_
      refine r_if_eq (tgt := 38) hx hb (nI_tI (by omega)) dX4_isNextDigit_20 (by decide) (fun c20 => ?_) (fun c20 => False.elim (by omega))
      refine lv_iconst (v := (nI 0)) hx hb dX4_isNextDigit_38 (by decide) ?_
      exact hret (nI 0) H locs _ ls (by first | (rw [nd_t (by omega)]; rfl) | (rw [nd_f (by omega)]; rfl)) rfl hS dX4_isNextDigit_39
    · skip
      refine lv_iload_n hx hb dX4_isNextDigit_9 rfl (lv_at hl 2 rfl) ?_
      refine r_if_eq (tgt := 17) hx hb (nI_tI (by omega)) dX4_isNextDigit_10 (by decide) (fun c10 => ?_) (fun c10 => ?_)
      · skip
        refine lv_iconst (v := (nI 0)) hx hb dX4_isNextDigit_17 (by decide) ?_
        refine lv_istore_n (lv' := [(3, .int (nI 0)), (0, .int (nI ch)), (1, .int (nI d)), (2, .int (nI v))]) hx hb dX4_isNextDigit_18 rfl hl (by decide) rfl (fun ls hl => ?_)
        refine lv_iload_n hx hb dX4_isNextDigit_19 rfl (lv_at hl 0 rfl) ?_
        refine r_if_eq (tgt := 38) hx hb (nI_tI (by omega)) dX4_isNextDigit_20 (by decide) (fun c20 => ?_) (fun c20 => False.elim (by omega))
        refine lv_iconst (v := (nI 0)) hx hb dX4_isNextDigit_38 (by decide) ?_
        exact hret (nI 0) H locs _ ls (by first | (rw [nd_t (by omega)]; rfl) | (rw [nd_f (by omega)]; rfl)) rfl hS dX4_isNextDigit_39
      · skip
        refine lv_iconst (v := (nI 1)) hx hb dX4_isNextDigit_13 (by decide) ?_
        refine lv_goto (tgt := 18) hx hb dX4_isNextDigit_14 (by decide) ?_
        refine lv_istore_n (lv' := [(3, .int (nI 1)), (0, .int (nI ch)), (1, .int (nI d)), (2, .int (nI v))]) hx hb dX4_isNextDigit_18 rfl hl (by decide) rfl (fun ls hl => ?_)
        refine lv_iload_n hx hb dX4_isNextDigit_19 rfl (lv_at hl 0 rfl) ?_
        refine r_if_eq (tgt := 38) hx hb (nI_tI (by omega)) dX4_isNextDigit_20 (by decide) (fun c20 => False.elim (by omega)) (fun c20 => ?_)
        refine lv_iload_n hx hb dX4_isNextDigit_23 rfl (lv_at hl 1 rfl) ?_
        refine lv_bipush (v := (nI 48)) hx hb dX4_isNextDigit_24 (by decide) ?_
        refine lv_bipush (v := (nI 57)) hx hb dX4_isNextDigit_26 (by decide) ?_
        refine call_x (va_runSN (As := [.int (nI ch), .int (nI 48), .int (nI 57)]) (rest := []) ⟨hx, hb, hml, hown, hts⟩ (kX7_isWithin ln dg tq (v := (nI ch)) (lo := (nI 48)) (hi := (nI 57)) H.size) ⟨va_cnB 3 hts gX4_isNextDigit_X7_isWithin_n40 rfl rfl rfl hN.2.2.1 iRX7 hdX7_isWithin.2 ⟨Nat.le_of_ble_eq_true rfl, Nat.le_of_ble_eq_true rfl⟩, st_X7_isWithin, trivial⟩ (preS0 hK hN [.int (nI ch), .int (nI 48), .int (nI 57)]) rfl rfl hl.1 rfl (lv_room (Nat.le_of_ble_eq_true rfl)) dX4_isNextDigit_28 ⟨Nat.le_refl _, Nat.le_refl _⟩) hP hS hA (fun H locs hP hS => ?_)
        refine r_top (show (bI (inR (nI ch) (nI 48) (nI 57))) = (bI (decide (48 ≤ ch ∧ ch ≤ 57))) from congrArg bI (inR_d (by omega) (by omega) (by omega))) ?_
        refine r_if_eq_b (tgt := 38) hx hb dX4_isNextDigit_31 (by decide) (fun c31 => ?_) (fun c31 => ?_)
        · have c31 := of_decide_eq_false c31
          refine lv_iconst (v := (nI 0)) hx hb dX4_isNextDigit_38 (by decide) ?_
          exact hret (nI 0) H locs _ ls (by first | (rw [nd_t (by omega)]; rfl) | (rw [nd_f (by omega)]; rfl)) rfl hS dX4_isNextDigit_39
        · have c31 := of_decide_eq_true c31
          refine lv_iconst (v := (nI 1)) hx hb dX4_isNextDigit_34 (by decide) ?_
          refine lv_goto (tgt := 39) hx hb dX4_isNextDigit_35 (by decide) ?_
          exact hret (nI 1) H locs _ ls (by first | (rw [nd_t (by omega)]; rfl) | (rw [nd_f (by omega)]; rfl)) rfl hS dX4_isNextDigit_39
theorem hdX4_endSign : yX4_endSign.cls = RX4 ∧ yX4_endSign.cls ≠ "java/lang/invoke/MethodHandle" ∧ yX4_endSign.cls ≠ "java/lang/invoke/VarHandle" ∧ (parseMethodDescriptor yX4_endSign.desc).map (fun d => d.parameters.length) = some 0 := by decide +kernel
set_option maxHeartbeats 4000000 in
set_option maxRecDepth 100000 in
theorem kX4_endSign (ln : Launch) (dg : va_G) (tq : ClassId × ClassId) (p0 p1 : Nat) (sz : Nat) (nb : Row) (hsz : sz < 1000) : MR ln yX4_endSign wsX4_endSign (rmm 0 0) dg tq [.ref p0] [(p0, .inr (4, [.ref p1, .int (nI sz)])), (p1, .inl (tq.1, 100, .inl nb))] (fun r => r = (nI (es sz))) := by
  refine MR.enter cX4_endSign 1 .int (by decide) rfl rfl (Nat.le_of_ble_eq_true rfl) ?_
  intro pP eE sS mM aA bB mT cC QQ AA hA hAT hret H locs hP hS ls hl
  obtain ⟨hx, hb, hml, hown, hts, hK, hN⟩ := hAT
  have hown : sS.vm.findClass RX4 = some mM.cls := hown
  have hl : lv_has ls 1 [(0, .ref p0)] := hl
  have in4 : ∀ w ∈ u_ws RX4 TX4 2, w ∈ wsX4_endSign := (fun _ h9 => List.mem_cons_of_mem _ (List.mem_append_right _ h9))
  have f15 := hts (.fieldLink RX4 15 "OrphanChain$Proof" "size" "I") (List.mem_of_getElem? (i := 1) rfl)
  refine lv_aload_n hx hb dX4_endSign_0 rfl (lv_at hl 0 rfl) ?_
  refine va_get (D := dg) (ci := 4) (v := .int (nI sz)) (C := RX4) (T := TX4) (N := 2) hx hb hts in4 hown hK hP 0 rfl rfl 1 (by decide) f15 (fun _ h9 => h9) rfl dX4_endSign_1 ?_
  refine r_if_ne (tgt := 12) hx hb (nI_tI (by omega)) dX4_endSign_4 (by decide) (fun c4 => ?_) (fun c4 => ?_)
  · skip
    refine lv_bipush (v := (nI 44)) hx hb dX4_endSign_12 (by decide) ?_
    exact hret (nI 44) H locs _ ls (by unfold es; first | rw [if_pos (by omega)] | rw [if_neg (by omega)]) rfl hS dX4_endSign_14
  · skip
    refine lv_bipush (v := (nI 58)) hx hb dX4_endSign_7 (by decide) ?_
    refine lv_goto (tgt := 14) hx hb dX4_endSign_9 (by decide) ?_
    exact hret (nI 58) H locs _ ls (by unfold es; first | rw [if_pos (by omega)] | rw [if_neg (by omega)]) rfl hS dX4_endSign_14
theorem hdX4_keep : yX4_keep.cls = RX4 ∧ yX4_keep.cls ≠ "java/lang/invoke/MethodHandle" ∧ yX4_keep.cls ≠ "java/lang/invoke/VarHandle" ∧ (parseMethodDescriptor yX4_keep.desc).map (fun d => d.parameters.length) = some 1 := by decide +kernel
set_option maxHeartbeats 4000000 in
set_option maxRecDepth 100000 in
theorem kX4_keep (ln : Launch) (dg : va_G) (tq : ClassId × ClassId) (p0 p1 : Nat) (sz : Nat) (nb : Row) (v : Int32) (hsz : sz < 100) : MV ln yX4_keep wsX4_keep (rmm 0 0) dg tq [.ref p0, .int v] [(p0, .inr (4, [.ref p1, .int (nI sz)])), (p1, .inl (tq.1, 100, .inl nb))] (fun (u : Unit) => True) (fun u => [(p0, .inr (4, [.ref p1, .int (nI (sz + 1))])), (p1, .inl (tq.1, 100, .inl (upd nb sz v)))]) := by
  refine MV.enter cX4_keep 2 (by decide) rfl rfl (Nat.le_of_ble_eq_true rfl) ?_
  intro pP eE sS mM aA bB mT cC QQ AA hA hAT hret H locs hP hD hS ls hl
  obtain ⟨hx, hb, hml, hown, hts, hK, hN⟩ := hAT
  have hown : sS.vm.findClass RX4 = some mM.cls := hown
  have hl : lv_has ls 2 [(0, .ref p0), (1, .int v)] := hl
  have in4 : ∀ w ∈ u_ws RX4 TX4 2, w ∈ wsX4_keep := (fun _ h9 => List.mem_cons_of_mem _ (List.mem_append_right _ h9))
  have f15 := hts (.fieldLink RX4 15 "OrphanChain$Proof" "size" "I") (List.mem_of_getElem? (i := 1) rfl)
  have f9 := hts (.fieldLink RX4 9 "OrphanChain$Proof" "numbers" "[I") (List.mem_of_getElem? (i := 2) rfl)
  refine lv_aload_n hx hb dX4_keep_0 rfl (lv_at hl 0 rfl) ?_
  refine va_get (D := dg) (ci := 4) (v := .int (nI sz)) (C := RX4) (T := TX4) (N := 2) hx hb hts in4 hown hK hP 0 rfl rfl 1 (by decide) f15 (fun _ h9 => h9) rfl dX4_keep_1 ?_
  refine r_if_lt (tgt := 39) hx hb (nI_tI (by omega)) dX4_keep_4 (by decide) (fun c4 => False.elim (by omega)) (fun c4 => ?_)
  refine lv_aload_n hx hb dX4_keep_7 rfl (lv_at hl 0 rfl) ?_
  refine va_get (D := dg) (ci := 4) (v := .int (nI sz)) (C := RX4) (T := TX4) (N := 2) hx hb hts in4 hown hK hP 0 rfl rfl 1 (by decide) f15 (fun _ h9 => h9) rfl dX4_keep_8 ?_
  refine lv_aload_n hx hb dX4_keep_11 rfl (lv_at hl 0 rfl) ?_
  refine va_get (D := dg) (ci := 4) (v := .ref p1) (C := RX4) (T := TX4) (N := 2) hx hb hts in4 hown hK hP 0 rfl rfl 0 (by decide) f9 (fun _ h9 => h9) rfl dX4_keep_12 ?_
  refine va_alen (v := (nI 100)) hx hb hK hP 1 0 rfl rfl rfl dX4_keep_15 ?_
  refine r_icmp_ge (tgt := 39) hx hb (nI_tI (by omega)) (nI_tI (by omega)) dX4_keep_16 (by decide) (fun c16 => False.elim (by omega)) (fun c16 => ?_)
  refine lv_aload_n hx hb dX4_keep_19 rfl (lv_at hl 0 rfl) ?_
  refine va_get (D := dg) (ci := 4) (v := .ref p1) (C := RX4) (T := TX4) (N := 2) hx hb hts in4 hown hK hP 0 rfl rfl 0 (by decide) f9 (fun _ h9 => h9) rfl dX4_keep_20 ?_
  refine lv_aload_n hx hb dX4_keep_23 rfl (lv_at hl 0 rfl) ?_
  refine va_get (D := dg) (ci := 4) (v := .int (nI sz)) (C := RX4) (T := TX4) (N := 2) hx hb hts in4 hown hK hP 0 rfl rfl 1 (by decide) f15 (fun _ h9 => h9) rfl dX4_keep_24 ?_
  refine lv_iload_n hx hb dX4_keep_27 rfl (lv_at hl 1 rfl) ?_
  refine r_iast_n hx hb hK hP hD hS 1 rfl (k := sz) (by omega) (by omega) dX4_keep_28 (fun H locs hP hD hS => ?_)
  have hP : va_P dg vwCl [(p0, .inr (4, [.ref p1, .int (nI sz)])), (p1, .inl (tq.1, 100, .inl (upd nb sz v)))] H := hP
  have hD : va_D AA [(p0, .inr (4, [.ref p1, .int (nI sz)])), (p1, .inl (tq.1, 100, .inl (upd nb sz v)))] := hD
  refine lv_aload_n hx hb dX4_keep_29 rfl (lv_at hl 0 rfl) ?_
  refine lv_dup hx hb dX4_keep_30 rfl ?_
  refine va_get (D := dg) (ci := 4) (v := .int (nI sz)) (C := RX4) (T := TX4) (N := 2) hx hb hts in4 hown hK hP 0 rfl rfl 1 (by decide) f15 (fun _ h9 => h9) rfl dX4_keep_31 ?_
  refine lv_iconst (v := (nI 1)) hx hb dX4_keep_34 (by decide) ?_
  refine r_iadd_n hx hb dX4_keep_35 ?_
  refine va_put (D := dg) (ci := 4) (v := .int (nI (sz + 1))) (ty := .int) (C := RX4) (T := TX4) (N := 2) hx hb hts in4 tyX4 tyX4_ok nmX4 hown hK hP hD hS 0 rfl rfl 1 (by decide) f15 (fun _ h9 => h9) rfl (by decide +kernel) rfl rfl (Nat.le_of_ble_eq_true rfl) dX4_keep_36 (fun H locs hP hD hS => ?_)
  have hP : va_P dg vwCl [(p0, .inr (4, [.ref p1, .int (nI (sz + 1))])), (p1, .inl (tq.1, 100, .inl (upd nb sz v)))] H := hP
  have hD : va_D AA [(p0, .inr (4, [.ref p1, .int (nI (sz + 1))])), (p1, .inl (tq.1, 100, .inl (upd nb sz v)))] := hD
  exact hret (()) H locs _ ls (trivial) (hP.sub [0, 1] rfl) (hD.sub [0, 1] (by decide) rfl) hS dX4_keep_39
theorem hdX4_startEntry : yX4_startEntry.cls = RX4 ∧ yX4_startEntry.cls ≠ "java/lang/invoke/MethodHandle" ∧ yX4_startEntry.cls ≠ "java/lang/invoke/VarHandle" ∧ (parseMethodDescriptor yX4_startEntry.desc).map (fun d => d.parameters.length) = some 0 := by decide +kernel
set_option maxHeartbeats 4000000 in
set_option maxRecDepth 100000 in
theorem kX4_startEntry (ln : Launch) (dg : va_G) (tq : ClassId × ClassId) (p0 p1 : Nat) (sz : Nat) (nb : Row) (hsz : 0 < sz) (hsz2 : sz < 1000) : MR ln yX4_startEntry wsX4_startEntry (rmm 0 0) dg tq [.ref p0] [(p0, .inr (4, [.ref p1, .int (nI sz)])), (p1, .inl (tq.1, 100, .inl nb))] (fun r => r = (nb 0)) := by
  refine MR.enter cX4_startEntry 1 .int (by decide) rfl rfl (Nat.le_of_ble_eq_true rfl) ?_
  intro pP eE sS mM aA bB mT cC QQ AA hA hAT hret H locs hP hS ls hl
  obtain ⟨hx, hb, hml, hown, hts, hK, hN⟩ := hAT
  have hown : sS.vm.findClass RX4 = some mM.cls := hown
  have hl : lv_has ls 1 [(0, .ref p0)] := hl
  have in4 : ∀ w ∈ u_ws RX4 TX4 2, w ∈ wsX4_startEntry := (fun _ h9 => List.mem_cons_of_mem _ (List.mem_append_right _ h9))
  have f15 := hts (.fieldLink RX4 15 "OrphanChain$Proof" "size" "I") (List.mem_of_getElem? (i := 1) rfl)
  have f9 := hts (.fieldLink RX4 9 "OrphanChain$Proof" "numbers" "[I") (List.mem_of_getElem? (i := 2) rfl)
  refine lv_aload_n hx hb dX4_startEntry_0 rfl (lv_at hl 0 rfl) ?_
  refine va_get (D := dg) (ci := 4) (v := .int (nI sz)) (C := RX4) (T := TX4) (N := 2) hx hb hts in4 hown hK hP 0 rfl rfl 1 (by decide) f15 (fun _ h9 => h9) rfl dX4_startEntry_1 ?_
  refine r_if_le (tgt := 16) hx hb (nI_tI (by omega)) dX4_startEntry_4 (by decide) (fun c4 => False.elim (by omega)) (fun c4 => ?_)
  refine lv_aload_n hx hb dX4_startEntry_7 rfl (lv_at hl 0 rfl) ?_
  refine va_get (D := dg) (ci := 4) (v := .ref p1) (C := RX4) (T := TX4) (N := 2) hx hb hts in4 hown hK hP 0 rfl rfl 0 (by decide) f9 (fun _ h9 => h9) rfl dX4_startEntry_8 ?_
  refine lv_iconst (v := (nI 0)) hx hb dX4_startEntry_11 (by decide) ?_
  refine r_iald_n hx hb hK hP 1 rfl (k := 0) (by omega) (by omega) dX4_startEntry_12 ?_
  refine lv_goto (tgt := 18) hx hb dX4_startEntry_13 (by decide) ?_
  exact hret (nb 0) H locs _ ls (rfl) rfl hS dX4_startEntry_18
theorem hdX4_links : yX4_links.cls = RX4 ∧ yX4_links.cls ≠ "java/lang/invoke/MethodHandle" ∧ yX4_links.cls ≠ "java/lang/invoke/VarHandle" ∧ (parseMethodDescriptor yX4_links.desc).map (fun d => d.parameters.length) = some 0 := by decide +kernel
set_option maxHeartbeats 4000000 in
set_option maxRecDepth 100000 in
theorem kX4_links (ln : Launch) (dg : va_G) (tq : ClassId × ClassId) (p0 p1 : Nat) (sz : Nat) (nb : Row) (hsz : 0 < sz) : MR ln yX4_links wsX4_links (rmm 0 0) dg tq [.ref p0] [(p0, .inr (4, [.ref p1, .int (nI sz)])), (p1, .inl (tq.1, 100, .inl nb))] (fun r => r = (nI (sz - 1))) := by
  refine MR.enter cX4_links 1 .int (by decide) rfl rfl (Nat.le_of_ble_eq_true rfl) ?_
  intro pP eE sS mM aA bB mT cC QQ AA hA hAT hret H locs hP hS ls hl
  obtain ⟨hx, hb, hml, hown, hts, hK, hN⟩ := hAT
  have hown : sS.vm.findClass RX4 = some mM.cls := hown
  have hl : lv_has ls 1 [(0, .ref p0)] := hl
  have in4 : ∀ w ∈ u_ws RX4 TX4 2, w ∈ wsX4_links := (fun _ h9 => List.mem_cons_of_mem _ (List.mem_append_right _ h9))
  have f15 := hts (.fieldLink RX4 15 "OrphanChain$Proof" "size" "I") (List.mem_of_getElem? (i := 1) rfl)
  refine lv_aload_n hx hb dX4_links_0 rfl (lv_at hl 0 rfl) ?_
  refine va_get (D := dg) (ci := 4) (v := .int (nI sz)) (C := RX4) (T := TX4) (N := 2) hx hb hts in4 hown hK hP 0 rfl rfl 1 (by decide) f15 (fun _ h9 => h9) rfl dX4_links_1 ?_
  refine lv_iconst (v := (nI 1)) hx hb dX4_links_4 (by decide) ?_
  refine r_isub_n hx hb (by omega) dX4_links_5 ?_
  exact hret (nI (sz - 1)) H locs _ ls (rfl) rfl hS dX4_links_6
theorem hdX4_link : yX4_link.cls = RX4 ∧ yX4_link.cls ≠ "java/lang/invoke/MethodHandle" ∧ yX4_link.cls ≠ "java/lang/invoke/VarHandle" ∧ (parseMethodDescriptor yX4_link.desc).map (fun d => d.parameters.length) = some 1 := by decide +kernel
set_option maxHeartbeats 4000000 in
set_option maxRecDepth 100000 in
theorem kX4_link (ln : Launch) (dg : va_G) (tq : ClassId × ClassId) (p0 p1 : Nat) (sz : Nat) (nb : Row) (k : Nat) (hk : k + 1 < sz) (hsz : sz ≤ 100) : MR ln yX4_link wsX4_link (rmm 0 0) dg tq [.ref p0, .int (nI k)] [(p0, .inr (4, [.ref p1, .int (nI sz)])), (p1, .inl (tq.1, 100, .inl nb))] (fun r => r = (nb (k + 1))) := by
  refine MR.enter cX4_link 3 .int (by decide) rfl rfl (Nat.le_of_ble_eq_true rfl) ?_
  intro pP eE sS mM aA bB mT cC QQ AA hA hAT hret H locs hP hS ls hl
  obtain ⟨hx, hb, hml, hown, hts, hK, hN⟩ := hAT
  have hown : sS.vm.findClass RX4 = some mM.cls := hown
  have hl : lv_has ls 3 [(0, .ref p0), (1, .int (nI k))] := hl
  have in4 : ∀ w ∈ u_ws RX4 TX4 2, w ∈ wsX4_link := (fun _ h9 => List.mem_cons_of_mem _ (List.mem_append_right _ h9))
  have f15 := hts (.fieldLink RX4 15 "OrphanChain$Proof" "size" "I") (List.mem_of_getElem? (i := 1) rfl)
  have f9 := hts (.fieldLink RX4 9 "OrphanChain$Proof" "numbers" "[I") (List.mem_of_getElem? (i := 2) rfl)
  refine lv_iload_n hx hb dX4_link_0 rfl (lv_at hl 1 rfl) ?_
  refine lv_iconst (v := (nI 1)) hx hb dX4_link_1 (by decide) ?_
  refine r_iadd_n hx hb dX4_link_2 ?_
  refine lv_istore_n (lv' := [(2, .int (nI (k + 1))), (0, .ref p0), (1, .int (nI k))]) hx hb dX4_link_3 rfl hl (by decide) rfl (fun ls hl => ?_)
  refine lv_iload_n hx hb dX4_link_4 rfl (lv_at hl 0 rfl) ?_
  refine lv_iconst (v := (nI 1)) hx hb dX4_link_5 (by decide) ?_
  refine r_icmp_lt (tgt := 35) hx hb (nI_tI (by omega)) (nI_tI (by omega)) dX4_link_6 (by decide) (fun c6 => False.elim (by omega)) (fun c6 => ?_)
  refine lv_iload_n hx hb dX4_link_9 rfl (lv_at hl 0 rfl) ?_
  refine lv_aload_n hx hb dX4_link_10 rfl (lv_at hl 1 rfl) ?_
  refine va_get (D := dg) (ci := 4) (v := .int (nI sz)) (C := RX4) (T := TX4) (N := 2) hx hb hts in4 hown hK hP 0 rfl rfl 1 (by decide) f15 (fun _ h9 => h9) rfl dX4_link_11 ?_
  refine r_icmp_ge (tgt := 35) hx hb (nI_tI (by omega)) (nI_tI (by omega)) dX4_link_14 (by decide) (fun c14 => False.elim (by omega)) (fun c14 => ?_)
  refine lv_iload_n hx hb dX4_link_17 rfl (lv_at hl 0 rfl) ?_
  refine lv_aload_n hx hb dX4_link_18 rfl (lv_at hl 1 rfl) ?_
  refine va_get (D := dg) (ci := 4) (v := .ref p1) (C := RX4) (T := TX4) (N := 2) hx hb hts in4 hown hK hP 0 rfl rfl 0 (by decide) f9 (fun _ h9 => h9) rfl dX4_link_19 ?_
  refine va_alen (v := (nI 100)) hx hb hK hP 1 0 rfl rfl rfl dX4_link_22 ?_
  refine r_icmp_ge (tgt := 35) hx hb (nI_tI (by omega)) (nI_tI (by omega)) dX4_link_23 (by decide) (fun c23 => False.elim (by omega)) (fun c23 => ?_)
  refine lv_aload_n hx hb dX4_link_26 rfl (lv_at hl 1 rfl) ?_
  refine va_get (D := dg) (ci := 4) (v := .ref p1) (C := RX4) (T := TX4) (N := 2) hx hb hts in4 hown hK hP 0 rfl rfl 0 (by decide) f9 (fun _ h9 => h9) rfl dX4_link_27 ?_
  refine lv_iload_n hx hb dX4_link_30 rfl (lv_at hl 0 rfl) ?_
  refine r_iald_n hx hb hK hP 1 rfl (k := (k + 1)) (by omega) (by omega) dX4_link_31 ?_
  refine lv_goto (tgt := 37) hx hb dX4_link_32 (by decide) ?_
  exact hret (nb (k + 1)) H locs _ ls (rfl) rfl hS dX4_link_37
theorem hdX4_parse : yX4_parse.cls = RX4 ∧ yX4_parse.cls ≠ "java/lang/invoke/MethodHandle" ∧ yX4_parse.cls ≠ "java/lang/invoke/VarHandle" ∧ (parseMethodDescriptor yX4_parse.desc).map (fun d => d.parameters.length) = some 1 := by decide +kernel
set_option maxHeartbeats 4000000 in
set_option maxRecDepth 100000 in
theorem kX4_parse (ln : Launch) (dg : va_G) (tq : ClassId × ClassId) (p0 p1 : Nat) (xs : Int32) (nb : Row) (t0 t1 : Nat) (tl : Nat) (tx : Row) (hT : TOK tx tl) : MW ln yX4_parse wsX4_parse (rmm 2 45) dg tq [.ref p0, .ref t0] [(p0, .inr (4, [.ref p1, .int xs])), (p1, .inl (tq.1, 100, .inl nb)), (t0, .inr (6, [.ref t1, .int (nI tl)])), (t1, .inl (tq.1, 100, .inl tx))] (fun (r : Int32) (u : Nat × Row) => r = (prF tx tl 0 0 0 0) ∧ ((prF tx tl 0 0 0 0 = iI (-1) → u.1 = prS tx tl 0 0 0 0 ∧ ∀ x, x < u.1 → u.2 x = nI (prN tx tl 0 0 0 0 x)) ∧ u.1 ≤ 51)) (fun u => [(p0, .inr (4, [.ref p1, .int (nI u.1)])), (p1, .inl (tq.1, 100, .inl u.2)), (t0, .inr (6, [.ref t1, .int (nI tl)])), (t1, .inl (tq.1, 100, .inl tx))]) := by
  refine MW.enter cX4_parse 6 .int (by decide) rfl rfl (Nat.le_of_ble_eq_true rfl) ?_
  intro pP eE sS mM aA bB mT cC QQ AA hA hAT hret H locs hP hD hS ls hl
  obtain ⟨hx, hb, hml, hown, hts, hK, hN⟩ := hAT
  have hown : sS.vm.findClass RX4 = some mM.cls := hown
  have hl : lv_has ls 6 [(0, .ref p0), (1, .ref t0)] := hl
  have in4 : ∀ w ∈ u_ws RX4 TX4 2, w ∈ wsX4_parse := (fun _ h9 => List.mem_cons_of_mem _ (List.mem_append_left _ (List.mem_append_right _ h9)))
  have f15 := hts (.fieldLink RX4 15 "OrphanChain$Proof" "size" "I") (List.mem_of_getElem? (i := 1) rfl)
  have htl := hT.1
  refine lv_aload_n hx hb dX4_parse_0 rfl (lv_at hl 0 rfl) ?_
  refine lv_iconst (v := (nI 0)) hx hb dX4_parse_1 (by decide) ?_
  refine va_put (D := dg) (ci := 4) (v := .int (nI 0)) (ty := .int) (C := RX4) (T := TX4) (N := 2) hx hb hts in4 tyX4 tyX4_ok nmX4 hown hK hP hD hS 0 rfl rfl 1 (by decide) f15 (fun _ h9 => h9) rfl (by decide +kernel) rfl rfl (Nat.le_of_ble_eq_true rfl) dX4_parse_2 (fun H locs hP hD hS => ?_)
  have hP : va_P dg vwCl [(p0, .inr (4, [.ref p1, .int (nI 0)])), (p1, .inl (tq.1, 100, .inl nb)), (t0, .inr (6, [.ref t1, .int (nI tl)])), (t1, .inl (tq.1, 100, .inl tx))] H := hP
  have hD : va_D AA [(p0, .inr (4, [.ref p1, .int (nI 0)])), (p1, .inl (tq.1, 100, .inl nb)), (t0, .inr (6, [.ref t1, .int (nI tl)])), (t1, .inl (tq.1, 100, .inl tx))] := hD
  refine lv_iconst (v := (nI 0)) hx hb dX4_parse_5 (by decide) ?_
  refine lv_istore_n (lv' := [(2, .int (nI 0)), (0, .ref p0), (1, .ref t0)]) hx hb dX4_parse_6 rfl hl (by decide) rfl (fun ls hl => ?_)
  refine lv_iconst (v := (nI 0)) hx hb dX4_parse_7 (by decide) ?_
  refine lv_istore_n (lv' := [(3, .int (nI 0)), (2, .int (nI 0)), (0, .ref p0), (1, .ref t0)]) hx hb dX4_parse_8 rfl hl (by decide) rfl (fun ls hl => ?_)
  refine lv_iconst (v := (nI 0)) hx hb dX4_parse_9 (by decide) ?_
  refine lv_istore (lv' := [(4, .int (nI 0)), (3, .int (nI 0)), (2, .int (nI 0)), (0, .ref p0), (1, .ref t0)]) hx hb dX4_parse_10 hl (by decide) rfl (fun ls hl => ?_)
  have loop12 : ∀ (fu : Nat) (i_ : Nat) (d_ : Nat) (v_ : Nat) (k_ : Nat) (n_ : Row) (H : Heap) (locs : List Loc) (ls : Array Slot), (i_ ≤ tl ∧ prF tx tl 0 0 0 0 = prF tx (tl - i_) i_ d_ v_ k_ ∧ prS tx tl 0 0 0 0 = prS tx (tl - i_) i_ d_ v_ k_ ∧ (∀ x, x < k_ → n_ x = nI (prN tx tl 0 0 0 0 x)) ∧ (∀ x, k_ ≤ x → prN tx tl 0 0 0 0 x = prN tx (tl - i_) i_ d_ v_ k_ x) ∧ vOK d_ v_ ∧ 2 * k_ + d_ ≤ i_) → tl - i_ < fu → va_P dg vwCl [(p0, .inr (4, [.ref p1, .int (nI k_)])), (p1, .inl (tq.1, 100, .inl n_)), (t0, .inr (6, [.ref t1, .int (nI tl)])), (t1, .inl (tq.1, 100, .inl tx))] H → va_D AA [(p0, .inr (4, [.ref p1, .int (nI k_)])), (p1, .inl (tq.1, 100, .inl n_)), (t0, .inr (6, [.ref t1, .int (nI tl)])), (t1, .inl (tq.1, 100, .inl tx))] → va_S AA sS.heap H locs → lv_has ls 6 [(0, .ref p0), (1, .ref t0), (2, .int (nI d_)), (3, .int (nI v_)), (4, .int (nI i_))] → W pP ln eE (rmm 2 45) sS mM aA bB mT cC H locs 0 0 QQ (F0 mM 12 ls []) := by
    intro fu
    induction fu with
    | zero => intro i_ d_ v_ k_ n_ H locs ls _ hm; exact absurd hm (Nat.not_lt_zero _)
    | succ fu ih12 =>
      intro i_ d_ v_ k_ n_ H locs ls hinv hm hP hD hS hl
      obtain ⟨hi1, hi2, hi3, hi4, hi5, hi6, hi7⟩ := hinv
      have hv1 := vOK_lt hi6
      have hd1 := hi6.1
      refine lv_iload hx hb dX4_parse_12 (lv_at hl 4 rfl) ?_
      refine lv_aload_n hx hb dX4_parse_14 rfl (lv_at hl 1 rfl) ?_
      refine call_x (va_runV (As := []) (rest := [.int (nI i_)]) ⟨hx, hb, hml, hown, hts⟩ (kX6_length ln dg tq (t0 := t0) (t1 := t1) (tl := tl) (tx := tx) H.size) (cwV 0 hts gX4_parse_X6_length rfl rfl rfl hdX6_length ⟨Nat.le_of_ble_eq_true rfl, Nat.le_of_ble_eq_true rfl⟩) (preVR hK hN hP [2, 3] rfl 2 rfl rfl []) rfl rfl hl.1 rfl (lv_room (Nat.le_of_ble_eq_true rfl)) dX4_parse_15 ⟨Nat.le_refl _, Nat.le_refl _⟩) hP hS hA (fun H locs hP hS => ?_)
      refine r_icmp_ge (tgt := 90) hx hb (nI_tI (by omega)) (nI_tI (by omega)) dX4_parse_18 (by decide) (fun c18 => ?_) (fun c18 => ?_)
      · skip
        refine lv_iload_n hx hb dX4_parse_90 rfl (lv_at hl 2 rfl) ?_
        refine r_if_eq (tgt := 101) hx hb (nI_tI (by omega)) dX4_parse_91 (by decide) (fun c91 => ?_) (fun c91 => ?_)
        · skip
          refine lv_aload_n hx hb dX4_parse_101 rfl (lv_at hl 1 rfl) ?_
          refine call_x (va_runV (As := []) (rest := []) ⟨hx, hb, hml, hown, hts⟩ (kX6_length ln dg tq (t0 := t0) (t1 := t1) (tl := tl) (tx := tx) H.size) (cwV 0 hts gX4_parse_X6_length rfl rfl rfl hdX6_length ⟨Nat.le_of_ble_eq_true rfl, Nat.le_of_ble_eq_true rfl⟩) (preVR hK hN hP [2, 3] rfl 2 rfl rfl []) rfl rfl hl.1 rfl (lv_room (Nat.le_of_ble_eq_true rfl)) dX4_parse_102 ⟨Nat.le_refl _, Nat.le_refl _⟩) hP hS hA (fun H locs hP hS => ?_)
          exact hret (nI tl) (k_, n_) H locs _ ls (show (nI tl) = (prF tx tl 0 0 0 0) ∧ ((prF tx tl 0 0 0 0 = iI (-1) → k_ = prS tx tl 0 0 0 0 ∧ ∀ x, x < k_ → n_ x = nI (prN tx tl 0 0 0 0 x)) ∧ k_ ≤ 51) from (have e0 : prF tx tl 0 0 0 0 = nI tl := (by rw [hi2, show tl - i_ = 0 by omega, prF, if_pos (by omega), show i_ = tl by omega]); ⟨e0.symm, fun z => absurd (e0.symm.trans z) (nI_m1 (by omega)), by omega⟩)) rfl (hP.sub [0, 1, 2, 3] rfl) (hD.sub [0, 1, 2, 3] (by decide) rfl) hS dX4_parse_105
        · skip
          refine lv_aload_n hx hb dX4_parse_94 rfl (lv_at hl 0 rfl) ?_
          refine va_get (D := dg) (ci := 4) (v := .int (nI k_)) (C := RX4) (T := TX4) (N := 2) hx hb hts in4 hown hK hP 0 rfl rfl 1 (by decide) f15 (fun _ h9 => h9) rfl dX4_parse_95 ?_
          refine r_if_ne (tgt := 106) hx hb (nI_tI (by omega)) dX4_parse_98 (by decide) (fun c98 => ?_) (fun c98 => ?_)
          · skip
            refine lv_aload_n hx hb dX4_parse_106 rfl (lv_at hl 0 rfl) ?_
            refine lv_iload_n hx hb dX4_parse_107 rfl (lv_at hl 3 rfl) ?_
            refine call_v (wr := [(t0, .inr (6, [.ref t1, .int (nI tl)])), (t1, .inl (tq.1, 100, .inl tx))]) (va_runV (As := [.int (nI v_)]) (rest := []) ⟨hx, hb, hml, hown, hts⟩ (kX4_keep ln dg tq (p0 := p0) (p1 := p1) (sz := k_) (nb := n_) (v := (nI v_)) (hsz := (by omega)) H.size) (cwV 1 hts gX4_parse_X4_keep rfl rfl rfl hdX4_keep ⟨Nat.le_of_ble_eq_true rfl, Nat.le_of_ble_eq_true rfl⟩) (preVB hK hN hP hD [0, 1] rfl rfl rfl 0 rfl rfl [.int (nI v_)]) rfl rfl hl.1 rfl (lv_room (Nat.le_of_ble_eq_true rfl)) dX4_parse_108 ⟨Nat.le_refl _, Nat.le_refl _⟩) hP hD hS hA [0, 1] [2, 3] rfl rfl (by decide) (by decide) (fun u108 H locs hw108 hP hD hS => ?_)
            have hP : va_P dg vwCl [(t0, .inr (6, [.ref t1, .int (nI tl)])), (t1, .inl (tq.1, 100, .inl tx)), (p0, .inr (4, [.ref p1, .int (nI (k_ + 1))])), (p1, .inl (tq.1, 100, .inl (upd n_ k_ (nI v_))))] H := hP
            have hD : va_D AA [(t0, .inr (6, [.ref t1, .int (nI tl)])), (t1, .inl (tq.1, 100, .inl tx)), (p0, .inr (4, [.ref p1, .int (nI (k_ + 1))])), (p1, .inl (tq.1, 100, .inl (upd n_ k_ (nI v_))))] := hD
            refine lv_iconst (v := (iI (-1))) hx hb dX4_parse_111 (by decide) ?_
            exact hret (iI (-1)) (k_ + 1, (upd n_ k_ (nI v_))) H locs _ ls (show (iI (-1)) = (prF tx tl 0 0 0 0) ∧ ((prF tx tl 0 0 0 0 = iI (-1) → (k_ + 1) = prS tx tl 0 0 0 0 ∧ ∀ x, x < (k_ + 1) → (upd n_ k_ (nI v_)) x = nI (prN tx tl 0 0 0 0 x)) ∧ (k_ + 1) ≤ 51) from (⟨by rw [hi2, show tl - i_ = 0 by omega, prF, if_neg (by omega)], fun _ => ⟨by rw [hi3, show tl - i_ = 0 by omega, prS], fun x h => (by by_cases e0 : x = k_; (rw [e0, pk_us, hi5 k_ (by omega), show tl - i_ = 0 by omega, prN, if_pos rfl]); (rw [pk_un e0]; exact hi4 x (by omega)))⟩, by omega⟩)) rfl (hP.sub [2, 3, 0, 1] rfl) (hD.sub [2, 3, 0, 1] (by decide) rfl) hS dX4_parse_112
          · skip
            refine lv_aload_n hx hb dX4_parse_101 rfl (lv_at hl 1 rfl) ?_
            refine call_x (va_runV (As := []) (rest := []) ⟨hx, hb, hml, hown, hts⟩ (kX6_length ln dg tq (t0 := t0) (t1 := t1) (tl := tl) (tx := tx) H.size) (cwV 0 hts gX4_parse_X6_length rfl rfl rfl hdX6_length ⟨Nat.le_of_ble_eq_true rfl, Nat.le_of_ble_eq_true rfl⟩) (preVR hK hN hP [2, 3] rfl 2 rfl rfl []) rfl rfl hl.1 rfl (lv_room (Nat.le_of_ble_eq_true rfl)) dX4_parse_102 ⟨Nat.le_refl _, Nat.le_refl _⟩) hP hS hA (fun H locs hP hS => ?_)
            exact hret (nI tl) (k_, n_) H locs _ ls (show (nI tl) = (prF tx tl 0 0 0 0) ∧ ((prF tx tl 0 0 0 0 = iI (-1) → k_ = prS tx tl 0 0 0 0 ∧ ∀ x, x < k_ → n_ x = nI (prN tx tl 0 0 0 0 x)) ∧ k_ ≤ 51) from (have e0 : prF tx tl 0 0 0 0 = nI tl := (by rw [hi2, show tl - i_ = 0 by omega, prF, if_pos (by omega), show i_ = tl by omega]); ⟨e0.symm, fun z => absurd (e0.symm.trans z) (nI_m1 (by omega)), by omega⟩)) rfl (hP.sub [0, 1, 2, 3] rfl) (hD.sub [0, 1, 2, 3] (by decide) rfl) hS dX4_parse_105
      · skip
        refine lv_aload_n hx hb dX4_parse_21 rfl (lv_at hl 1 rfl) ?_
        refine lv_iload hx hb dX4_parse_22 (lv_at hl 4 rfl) ?_
        refine call_x (va_runV (As := [.int (nI i_)]) (rest := []) ⟨hx, hb, hml, hown, hts⟩ (kX6_at ln dg tq (t0 := t0) (t1 := t1) (tl := tl) (tx := tx) (k := i_) (hk := (by omega)) (htl := (by omega)) H.size) (cwV 1 hts gX4_parse_X6_at rfl rfl rfl hdX6_at ⟨Nat.le_of_ble_eq_true rfl, Nat.le_of_ble_eq_true rfl⟩) (preVR hK hN hP [2, 3] rfl 2 rfl rfl [.int (nI i_)]) rfl rfl hl.1 rfl (lv_room (Nat.le_of_ble_eq_true rfl)) dX4_parse_24 ⟨Nat.le_refl _, Nat.le_refl _⟩) hP hS hA (fun H locs hP hS => ?_)
        refine r_top (show (tx i_) = (nI (chr tx i_)) from (hT.2 i_ (by omega)).1) ?_
        refine lv_istore (lv' := [(5, .int (nI (chr tx i_))), (0, .ref p0), (1, .ref t0), (2, .int (nI d_)), (3, .int (nI v_)), (4, .int (nI i_))]) hx hb dX4_parse_27 hl (by decide) rfl (fun ls hl => ?_)
        obtain ⟨hT1, hT2⟩ := hT.2 i_ (by omega)
        refine lv_iload hx hb dX4_parse_29 (lv_at hl 0 rfl) ?_
        refine lv_iload_n hx hb dX4_parse_31 rfl (lv_at hl 3 rfl) ?_
        refine lv_iload_n hx hb dX4_parse_32 rfl (lv_at hl 4 rfl) ?_
        refine call_x (va_runS (As := [.int (nI (chr tx i_)), .int (nI d_), .int (nI v_)]) (rest := []) ⟨hx, hb, hml, hown, hts⟩ (kX4_isNextDigit ln dg tq (ch := chr tx i_) (d := d_) (v := v_) (hch := (by omega)) (hd := (by omega)) (hv := (by omega)) H.size) (va_cwS 3 hts gX4_parse_X4_isNextDigit rfl rfl rfl hdX4_isNextDigit.2 ⟨Nat.le_of_ble_eq_true rfl, Nat.le_of_ble_eq_true rfl⟩) (preS0 hK hN [.int (nI (chr tx i_)), .int (nI d_), .int (nI v_)]) rfl rfl hl.1 rfl (lv_room (Nat.le_of_ble_eq_true rfl)) dX4_parse_33 ⟨Nat.le_refl _, Nat.le_refl _⟩) hP hS hA (fun H locs hP hS => ?_)
        refine r_if_eq_b (tgt := 56) hx hb dX4_parse_36 (by decide) (fun c36 => ?_) (fun c36 => ?_)
        · skip
          refine lv_iload_n hx hb dX4_parse_56 rfl (lv_at hl 3 rfl) ?_
          refine r_if_le (tgt := 81) hx hb (nI_tI (by omega)) dX4_parse_57 (by decide) (fun c57 => ?_) (fun c57 => ?_)
          · skip
            refine lv_iload hx hb dX4_parse_81 (lv_at hl 5 rfl) ?_
            exact hret (nI i_) (k_, n_) H locs _ ls (show (nI i_) = (prF tx tl 0 0 0 0) ∧ ((prF tx tl 0 0 0 0 = iI (-1) → k_ = prS tx tl 0 0 0 0 ∧ ∀ x, x < k_ → n_ x = nI (prN tx tl 0 0 0 0 x)) ∧ k_ ≤ 51) from (have e0 : prF tx tl 0 0 0 0 = nI i_ := (by rw [hi2, show tl - i_ = (tl - (i_ + 1)) + 1 by omega, prF, if_neg (by rw [c36]; decide), if_neg (by omega)]); ⟨e0.symm, fun z => absurd (e0.symm.trans z) (nI_m1 (by omega)), by omega⟩)) rfl (hP.sub [0, 1, 2, 3] rfl) (hD.sub [0, 1, 2, 3] (by decide) rfl) hS dX4_parse_83
          · skip
            refine lv_iload hx hb dX4_parse_60 (lv_at hl 0 rfl) ?_
            refine lv_aload_n hx hb dX4_parse_62 rfl (lv_at hl 1 rfl) ?_
            refine call_x (va_runV (As := []) (rest := [.int (nI (chr tx i_))]) ⟨hx, hb, hml, hown, hts⟩ (kX4_endSign ln dg tq (p0 := p0) (p1 := p1) (sz := k_) (nb := n_) (hsz := (by omega)) H.size) (cwV 0 hts gX4_parse_X4_endSign rfl rfl rfl hdX4_endSign ⟨Nat.le_of_ble_eq_true rfl, Nat.le_of_ble_eq_true rfl⟩) (preVR hK hN hP [0, 1] rfl 0 rfl rfl []) rfl rfl hl.1 rfl (lv_room (Nat.le_of_ble_eq_true rfl)) dX4_parse_63 ⟨Nat.le_refl _, Nat.le_refl _⟩) hP hS hA (fun H locs hP hS => ?_)
            have hes := es_le k_
            refine r_icmp_ne (tgt := 81) hx hb (nI_tI (by omega)) (nI_tI (by omega)) dX4_parse_66 (by decide) (fun c66 => ?_) (fun c66 => ?_)
            · skip
              refine lv_iload hx hb dX4_parse_81 (lv_at hl 5 rfl) ?_
              exact hret (nI i_) (k_, n_) H locs _ ls (show (nI i_) = (prF tx tl 0 0 0 0) ∧ ((prF tx tl 0 0 0 0 = iI (-1) → k_ = prS tx tl 0 0 0 0 ∧ ∀ x, x < k_ → n_ x = nI (prN tx tl 0 0 0 0 x)) ∧ k_ ≤ 51) from (have e0 : prF tx tl 0 0 0 0 = nI i_ := (by rw [hi2, show tl - i_ = (tl - (i_ + 1)) + 1 by omega, prF, if_neg (by rw [c36]; decide), if_neg (by omega)]); ⟨e0.symm, fun z => absurd (e0.symm.trans z) (nI_m1 (by omega)), by omega⟩)) rfl (hP.sub [0, 1, 2, 3] rfl) (hD.sub [0, 1, 2, 3] (by decide) rfl) hS dX4_parse_83
            · skip
              refine lv_aload_n hx hb dX4_parse_69 rfl (lv_at hl 1 rfl) ?_
              refine lv_iload_n hx hb dX4_parse_70 rfl (lv_at hl 4 rfl) ?_
              refine call_v (wr := [(t0, .inr (6, [.ref t1, .int (nI tl)])), (t1, .inl (tq.1, 100, .inl tx))]) (va_runV (As := [.int (nI v_)]) (rest := []) ⟨hx, hb, hml, hown, hts⟩ (kX4_keep ln dg tq (p0 := p0) (p1 := p1) (sz := k_) (nb := n_) (v := (nI v_)) (hsz := (by omega)) H.size) (cwV 1 hts gX4_parse_X4_keep rfl rfl rfl hdX4_keep ⟨Nat.le_of_ble_eq_true rfl, Nat.le_of_ble_eq_true rfl⟩) (preVB hK hN hP hD [0, 1] rfl rfl rfl 0 rfl rfl [.int (nI v_)]) rfl rfl hl.1 rfl (lv_room (Nat.le_of_ble_eq_true rfl)) dX4_parse_71 ⟨Nat.le_refl _, Nat.le_refl _⟩) hP hD hS hA [0, 1] [2, 3] rfl rfl (by decide) (by decide) (fun u71 H locs hw71 hP hD hS => ?_)
              have hP : va_P dg vwCl [(t0, .inr (6, [.ref t1, .int (nI tl)])), (t1, .inl (tq.1, 100, .inl tx)), (p0, .inr (4, [.ref p1, .int (nI (k_ + 1))])), (p1, .inl (tq.1, 100, .inl (upd n_ k_ (nI v_))))] H := hP
              have hD : va_D AA [(t0, .inr (6, [.ref t1, .int (nI tl)])), (t1, .inl (tq.1, 100, .inl tx)), (p0, .inr (4, [.ref p1, .int (nI (k_ + 1))])), (p1, .inl (tq.1, 100, .inl (upd n_ k_ (nI v_))))] := hD
              refine lv_iconst (v := (nI 0)) hx hb dX4_parse_74 (by decide) ?_
              refine lv_istore_n (lv' := [(2, .int (nI 0)), (5, .int (nI (chr tx i_))), (0, .ref p0), (1, .ref t0), (3, .int (nI v_)), (4, .int (nI i_))]) hx hb dX4_parse_75 rfl hl (by decide) rfl (fun ls hl => ?_)
              refine lv_iconst (v := (nI 0)) hx hb dX4_parse_76 (by decide) ?_
              refine lv_istore_n (lv' := [(3, .int (nI 0)), (2, .int (nI 0)), (5, .int (nI (chr tx i_))), (0, .ref p0), (1, .ref t0), (4, .int (nI i_))]) hx hb dX4_parse_77 rfl hl (by decide) rfl (fun ls hl => ?_)
              refine lv_goto (tgt := 84) hx hb dX4_parse_78 (by decide) ?_
              refine lv_iinc (v := (nI (i_ + 1))) (lv' := [(4, .int (nI (i_ + 1))), (3, .int (nI 0)), (2, .int (nI 0)), (5, .int (nI (chr tx i_))), (0, .ref p0), (1, .ref t0)]) hx hb dX4_parse_84 hl (k := 5) rfl (nI_add _ _) (by decide) rfl (fun ls hl => ?_)
              refine lv_goto (tgt := 12) hx hb dX4_parse_87 (by decide) ?_
              exact ih12 (i_ + 1) 0 0 (k_ + 1) (upd n_ k_ (nI v_)) H locs ls (by first | exact ⟨by omega, by rw [hi2, show tl - i_ = (tl - (i_ + 1)) + 1 by omega, prF, if_pos c36], by rw [hi3, show tl - i_ = (tl - (i_ + 1)) + 1 by omega, prS, if_pos c36], hi4, fun x h => by rw [hi5 x h, show tl - i_ = (tl - (i_ + 1)) + 1 by omega, prN, if_pos c36], vOK_s hi6 c36, by omega⟩ | exact ⟨by omega, by rw [hi2, show tl - i_ = (tl - (i_ + 1)) + 1 by omega, prF, if_neg (by rw [c36]; decide), if_pos ⟨by omega, by omega⟩], by rw [hi3, show tl - i_ = (tl - (i_ + 1)) + 1 by omega, prS, if_neg (by rw [c36]; decide), if_pos ⟨by omega, by omega⟩], fun x h => (by by_cases e0 : x = k_; (rw [e0, pk_us, hi5 k_ (by omega), show tl - i_ = (tl - (i_ + 1)) + 1 by omega, prN, if_neg (by rw [c36]; decide), if_pos ⟨by omega, by omega⟩, if_pos rfl]); (rw [pk_un e0]; exact hi4 x (by omega))), fun x h => by rw [hi5 x (by omega), show tl - i_ = (tl - (i_ + 1)) + 1 by omega, prN, if_neg (by rw [c36]; decide), if_pos ⟨by omega, by omega⟩, if_neg (by omega)], vOK_0, by omega⟩) (by omega) (hP.sub [2, 3, 0, 1] rfl) (hD.sub [2, 3, 0, 1] (by decide) rfl) hS (lv_sub hl [4, 5, 2, 1, 0] rfl)
        · skip
          refine lv_iload_n hx hb dX4_parse_39 rfl (lv_at hl 4 rfl) ?_
          refine lv_bipush (v := (nI 10)) hx hb dX4_parse_40 (by decide) ?_
          refine r_imul_n hx hb dX4_parse_42 ?_
          refine lv_iload hx hb dX4_parse_43 (lv_at hl 0 rfl) ?_
          refine lv_bipush (v := (nI 48)) hx hb dX4_parse_45 (by decide) ?_
          refine r_isub_n hx hb ((nd_dig c36).1) dX4_parse_47 ?_
          refine r_iadd_n hx hb dX4_parse_48 ?_
          refine lv_istore_n (lv' := [(3, .int (nI ((v_ * 10) + ((chr tx i_) - 48)))), (5, .int (nI (chr tx i_))), (0, .ref p0), (1, .ref t0), (2, .int (nI d_)), (4, .int (nI i_))]) hx hb dX4_parse_49 rfl hl (by decide) rfl (fun ls hl => ?_)
          refine lv_iinc (v := (nI (d_ + 1))) (lv' := [(2, .int (nI (d_ + 1))), (3, .int (nI ((v_ * 10) + ((chr tx i_) - 48)))), (5, .int (nI (chr tx i_))), (0, .ref p0), (1, .ref t0), (4, .int (nI i_))]) hx hb dX4_parse_50 hl (k := 4) rfl (nI_add _ _) (by decide) rfl (fun ls hl => ?_)
          refine lv_goto (tgt := 84) hx hb dX4_parse_53 (by decide) ?_
          refine lv_iinc (v := (nI (i_ + 1))) (lv' := [(4, .int (nI (i_ + 1))), (2, .int (nI (d_ + 1))), (3, .int (nI ((v_ * 10) + ((chr tx i_) - 48)))), (5, .int (nI (chr tx i_))), (0, .ref p0), (1, .ref t0)]) hx hb dX4_parse_84 hl (k := 5) rfl (nI_add _ _) (by decide) rfl (fun ls hl => ?_)
          refine lv_goto (tgt := 12) hx hb dX4_parse_87 (by decide) ?_
          exact ih12 (i_ + 1) (d_ + 1) ((v_ * 10) + ((chr tx i_) - 48)) k_ n_ H locs ls (by first | exact ⟨by omega, by rw [hi2, show tl - i_ = (tl - (i_ + 1)) + 1 by omega, prF, if_pos c36], by rw [hi3, show tl - i_ = (tl - (i_ + 1)) + 1 by omega, prS, if_pos c36], hi4, fun x h => by rw [hi5 x h, show tl - i_ = (tl - (i_ + 1)) + 1 by omega, prN, if_pos c36], vOK_s hi6 c36, by omega⟩ | exact ⟨by omega, by rw [hi2, show tl - i_ = (tl - (i_ + 1)) + 1 by omega, prF, if_neg (by rw [c36]; decide), if_pos ⟨by omega, by omega⟩], by rw [hi3, show tl - i_ = (tl - (i_ + 1)) + 1 by omega, prS, if_neg (by rw [c36]; decide), if_pos ⟨by omega, by omega⟩], fun x h => (by by_cases e0 : x = k_; (rw [e0, pk_us, hi5 k_ (by omega), show tl - i_ = (tl - (i_ + 1)) + 1 by omega, prN, if_neg (by rw [c36]; decide), if_pos ⟨by omega, by omega⟩, if_pos rfl]); (rw [pk_un e0]; exact hi4 x (by omega))), fun x h => by rw [hi5 x (by omega), show tl - i_ = (tl - (i_ + 1)) + 1 by omega, prN, if_neg (by rw [c36]; decide), if_pos ⟨by omega, by omega⟩, if_neg (by omega)], vOK_0, by omega⟩) (by omega) (hP.sub [0, 1, 2, 3] rfl) (hD.sub [0, 1, 2, 3] (by decide) rfl) hS (lv_sub hl [4, 5, 1, 2, 0] rfl)
  exact loop12 _ 0 0 0 0 nb H locs ls (⟨by omega, rfl, rfl, fun x h => absurd h (Nat.not_lt_zero x), fun x _ => rfl, vOK_0, by omega⟩) (Nat.lt_succ_self _) (hP.sub [0, 1, 2, 3] rfl) (hD.sub [0, 1, 2, 3] (by decide) rfl) hS (lv_sub hl [3, 4, 2, 1, 0] rfl)
