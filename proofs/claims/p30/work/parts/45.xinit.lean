theorem hdX5_init : yX5_init.cls = RX5 ∧ yX5_init.cls ≠ "java/lang/invoke/MethodHandle" ∧ yX5_init.cls ≠ "java/lang/invoke/VarHandle" ∧ (parseMethodDescriptor yX5_init.desc).map (fun d => d.parameters.length) = some 0 := by decide +kernel
set_option maxHeartbeats 4000000 in
set_option maxRecDepth 100000 in
theorem kX5_init (ln : Launch) (dg : va_G) (tq : ClassId × ClassId) (x0 : Nat) : MC ln yX5_init wsX5_init (rmc 1 1 6 21) dg tq [.ref x0] [(x0, .inr (5, [.null]))] (fun (u : Nat) => True) (fun u => [(x0, .inr (5, [.ref u])), (u, .inl (tq.1, 6, .inl (fun _ => 0)))]) 1 6 := by
  refine MC.enter cX5_init 1 (by decide) rfl rfl (Nat.le_of_ble_eq_true rfl) ?_
  intro pP eE sS mM aA bB mT cC QQ AA hA hAT hin hret H locs hP hD hS ls hl
  obtain ⟨hx, hb, hml, hown, hts, hK, hN⟩ := hAT
  have hin : mT.name = "<init>" := hin
  have hown : sS.vm.findClass RX5 = some mM.cls := hown
  have hl : lv_has ls 1 [(0, .ref x0)] := hl
  have in5 : ∀ w ∈ u_ws RX5 TX5 1, w ∈ wsX5_init := (fun _ h9 => List.mem_cons_of_mem _ (List.mem_append_right _ h9))
  have ol := hts (.methodLink RX5 3 objectInit) (List.mem_of_getElem? (i := 1) rfl)
  have oi := hts (.instanceMethod objectInit) (List.mem_of_getElem? (i := 2) rfl)
  have oc := hts (.code objectInit ⟨#[0xb1]⟩ 1 none) (List.mem_of_getElem? (i := 3) rfl)
  have ar_int := hts (.arrayClass .int) (List.mem_of_getElem? (i := 4) rfl)
  have f9 := hts (.fieldLink RX5 9 "OrphanChain$Purse" "sums" "[I") (List.mem_of_getElem? (i := 5) rfl)
  refine lv_aload_n hx hb dX5_init_0 rfl (lv_at hl 0 rfl) ?_
  refine W.objInit hx hb hown ol oi oc rfl (by rw [hml]; exact hl.1) rfl dX5_init_1 (Nat.le_of_ble_eq_true rfl) (Nat.le_of_ble_eq_true rfl) ?_
  refine W.eq (g2 := F0 mM 4 ls []) rfl ?_
  refine lv_aload_n hx hb dX5_init_4 rfl (lv_at hl 0 rfl) ?_
  refine lv_bipush (v := (nI 6)) hx hb dX5_init_5 (by decide) ?_
  refine r_newi hx hb ar_int hK hP hD hS hA (n := 6) (by omega) (Nat.le_of_ble_eq_true rfl) (Nat.le_of_ble_eq_true rfl) dX5_init_7 (fun q7 H hP hD hS => ?_)
  have hP : va_P dg vwCl [(x0, .inr (5, [.null])), (q7, .inl (tq.1, 6, .inl (fun _ => 0)))] H := hP
  have hD : va_D AA [(x0, .inr (5, [.null])), (q7, .inl (tq.1, 6, .inl (fun _ => 0)))] := hD
  refine W.widen (k := 1) (n := 6) (Nat.le_of_ble_eq_true rfl) (Nat.le_of_ble_eq_true rfl) ?_
  refine va_putF (D := dg) (ci := 5) (v := .ref q7) (ty := (.array .int)) (C := RX5) (T := TX5) (N := 1) hx hb hts in5 tyX5 tyX5_ok nmX5 hown hK hP hD hS 0 rfl rfl 0 (by decide) f9 (fun _ h9 => h9) rfl hin rfl (by decide +kernel) rfl rfl (Nat.le_of_ble_eq_true rfl) dX5_init_9 (fun H locs hP hD hS => ?_)
  have hP : va_P dg vwCl [(x0, .inr (5, [.ref q7])), (q7, .inl (tq.1, 6, .inl (fun _ => 0)))] H := hP
  have hD : va_D AA [(x0, .inr (5, [.ref q7])), (q7, .inl (tq.1, 6, .inl (fun _ => 0)))] := hD
  exact hret (q7) H locs _ ls (trivial) (hP.sub [0, 1] rfl) (hD.sub [0, 1] (by decide) rfl) hS dX5_init_12
theorem hdX3_init : yX3_init.cls = RX3 ∧ yX3_init.cls ≠ "java/lang/invoke/MethodHandle" ∧ yX3_init.cls ≠ "java/lang/invoke/VarHandle" ∧ (parseMethodDescriptor yX3_init.desc).map (fun d => d.parameters.length) = some 0 := by decide +kernel
set_option maxHeartbeats 4000000 in
set_option maxRecDepth 100000 in
theorem kX3_init (ln : Launch) (dg : va_G) (tq : ClassId × ClassId) (x0 : Nat) : MC ln yX3_init wsX3_init (rmc 1 1 60 21) dg tq [.ref x0] [(x0, .inr (3, [.null, .int 0]))] (fun (u : Nat) => True) (fun u => [(x0, .inr (3, [.ref u, .int (nI 0)])), (u, .inl (tq.1, 60, .inl (fun _ => 0)))]) 1 60 := by
  refine MC.enter cX3_init 1 (by decide) rfl rfl (Nat.le_of_ble_eq_true rfl) ?_
  intro pP eE sS mM aA bB mT cC QQ AA hA hAT hin hret H locs hP hD hS ls hl
  obtain ⟨hx, hb, hml, hown, hts, hK, hN⟩ := hAT
  have hin : mT.name = "<init>" := hin
  have hown : sS.vm.findClass RX3 = some mM.cls := hown
  have hl : lv_has ls 1 [(0, .ref x0)] := hl
  have in3 : ∀ w ∈ u_ws RX3 TX3 2, w ∈ wsX3_init := (fun _ h9 => List.mem_cons_of_mem _ (List.mem_append_right _ h9))
  have ol := hts (.methodLink RX3 3 objectInit) (List.mem_of_getElem? (i := 1) rfl)
  have oi := hts (.instanceMethod objectInit) (List.mem_of_getElem? (i := 2) rfl)
  have oc := hts (.code objectInit ⟨#[0xb1]⟩ 1 none) (List.mem_of_getElem? (i := 3) rfl)
  have ar_int := hts (.arrayClass .int) (List.mem_of_getElem? (i := 4) rfl)
  have f9 := hts (.fieldLink RX3 9 "OrphanChain$Path" "entries" "[I") (List.mem_of_getElem? (i := 5) rfl)
  have f15 := hts (.fieldLink RX3 15 "OrphanChain$Path" "length" "I") (List.mem_of_getElem? (i := 6) rfl)
  refine lv_aload_n hx hb dX3_init_0 rfl (lv_at hl 0 rfl) ?_
  refine W.objInit hx hb hown ol oi oc rfl (by rw [hml]; exact hl.1) rfl dX3_init_1 (Nat.le_of_ble_eq_true rfl) (Nat.le_of_ble_eq_true rfl) ?_
  refine W.eq (g2 := F0 mM 4 ls []) rfl ?_
  refine lv_aload_n hx hb dX3_init_4 rfl (lv_at hl 0 rfl) ?_
  refine lv_bipush (v := (nI 60)) hx hb dX3_init_5 (by decide) ?_
  refine r_newi hx hb ar_int hK hP hD hS hA (n := 60) (by omega) (Nat.le_of_ble_eq_true rfl) (Nat.le_of_ble_eq_true rfl) dX3_init_7 (fun q7 H hP hD hS => ?_)
  have hP : va_P dg vwCl [(x0, .inr (3, [.null, .int 0])), (q7, .inl (tq.1, 60, .inl (fun _ => 0)))] H := hP
  have hD : va_D AA [(x0, .inr (3, [.null, .int 0])), (q7, .inl (tq.1, 60, .inl (fun _ => 0)))] := hD
  refine W.widen (k := 1) (n := 60) (Nat.le_of_ble_eq_true rfl) (Nat.le_of_ble_eq_true rfl) ?_
  refine va_putF (D := dg) (ci := 3) (v := .ref q7) (ty := (.array .int)) (C := RX3) (T := TX3) (N := 2) hx hb hts in3 tyX3 tyX3_ok nmX3 hown hK hP hD hS 0 rfl rfl 0 (by decide) f9 (fun _ h9 => h9) rfl hin rfl (by decide +kernel) rfl rfl (Nat.le_of_ble_eq_true rfl) dX3_init_9 (fun H locs hP hD hS => ?_)
  have hP : va_P dg vwCl [(x0, .inr (3, [.ref q7, .int 0])), (q7, .inl (tq.1, 60, .inl (fun _ => 0)))] H := hP
  have hD : va_D AA [(x0, .inr (3, [.ref q7, .int 0])), (q7, .inl (tq.1, 60, .inl (fun _ => 0)))] := hD
  refine lv_aload_n hx hb dX3_init_12 rfl (lv_at hl 0 rfl) ?_
  refine lv_iconst (v := (nI 0)) hx hb dX3_init_13 (by decide) ?_
  refine va_put (D := dg) (ci := 3) (v := .int (nI 0)) (ty := .int) (C := RX3) (T := TX3) (N := 2) hx hb hts in3 tyX3 tyX3_ok nmX3 hown hK hP hD hS 0 rfl rfl 1 (by decide) f15 (fun _ h9 => h9) rfl (by decide +kernel) rfl rfl (Nat.le_of_ble_eq_true rfl) dX3_init_14 (fun H locs hP hD hS => ?_)
  have hP : va_P dg vwCl [(x0, .inr (3, [.ref q7, .int (nI 0)])), (q7, .inl (tq.1, 60, .inl (fun _ => 0)))] H := hP
  have hD : va_D AA [(x0, .inr (3, [.ref q7, .int (nI 0)])), (q7, .inl (tq.1, 60, .inl (fun _ => 0)))] := hD
  exact hret (q7) H locs _ ls (trivial) (hP.sub [0, 1] rfl) (hD.sub [0, 1] (by decide) rfl) hS dX3_init_17
theorem hdX4_init : yX4_init.cls = RX4 ∧ yX4_init.cls ≠ "java/lang/invoke/MethodHandle" ∧ yX4_init.cls ≠ "java/lang/invoke/VarHandle" ∧ (parseMethodDescriptor yX4_init.desc).map (fun d => d.parameters.length) = some 0 := by decide +kernel
set_option maxHeartbeats 4000000 in
set_option maxRecDepth 100000 in
theorem kX4_init (ln : Launch) (dg : va_G) (tq : ClassId × ClassId) (x0 : Nat) : MC ln yX4_init wsX4_init (rmc 1 1 100 21) dg tq [.ref x0] [(x0, .inr (4, [.null, .int 0]))] (fun (u : Nat) => True) (fun u => [(x0, .inr (4, [.ref u, .int (nI 0)])), (u, .inl (tq.1, 100, .inl (fun _ => 0)))]) 1 100 := by
  refine MC.enter cX4_init 1 (by decide) rfl rfl (Nat.le_of_ble_eq_true rfl) ?_
  intro pP eE sS mM aA bB mT cC QQ AA hA hAT hin hret H locs hP hD hS ls hl
  obtain ⟨hx, hb, hml, hown, hts, hK, hN⟩ := hAT
  have hin : mT.name = "<init>" := hin
  have hown : sS.vm.findClass RX4 = some mM.cls := hown
  have hl : lv_has ls 1 [(0, .ref x0)] := hl
  have in4 : ∀ w ∈ u_ws RX4 TX4 2, w ∈ wsX4_init := (fun _ h9 => List.mem_cons_of_mem _ (List.mem_append_right _ h9))
  have ol := hts (.methodLink RX4 3 objectInit) (List.mem_of_getElem? (i := 1) rfl)
  have oi := hts (.instanceMethod objectInit) (List.mem_of_getElem? (i := 2) rfl)
  have oc := hts (.code objectInit ⟨#[0xb1]⟩ 1 none) (List.mem_of_getElem? (i := 3) rfl)
  have ar_int := hts (.arrayClass .int) (List.mem_of_getElem? (i := 4) rfl)
  have f9 := hts (.fieldLink RX4 9 "OrphanChain$Proof" "numbers" "[I") (List.mem_of_getElem? (i := 5) rfl)
  have f15 := hts (.fieldLink RX4 15 "OrphanChain$Proof" "size" "I") (List.mem_of_getElem? (i := 6) rfl)
  refine lv_aload_n hx hb dX4_init_0 rfl (lv_at hl 0 rfl) ?_
  refine W.objInit hx hb hown ol oi oc rfl (by rw [hml]; exact hl.1) rfl dX4_init_1 (Nat.le_of_ble_eq_true rfl) (Nat.le_of_ble_eq_true rfl) ?_
  refine W.eq (g2 := F0 mM 4 ls []) rfl ?_
  refine lv_aload_n hx hb dX4_init_4 rfl (lv_at hl 0 rfl) ?_
  refine lv_bipush (v := (nI 100)) hx hb dX4_init_5 (by decide) ?_
  refine r_newi hx hb ar_int hK hP hD hS hA (n := 100) (by omega) (Nat.le_of_ble_eq_true rfl) (Nat.le_of_ble_eq_true rfl) dX4_init_7 (fun q7 H hP hD hS => ?_)
  have hP : va_P dg vwCl [(x0, .inr (4, [.null, .int 0])), (q7, .inl (tq.1, 100, .inl (fun _ => 0)))] H := hP
  have hD : va_D AA [(x0, .inr (4, [.null, .int 0])), (q7, .inl (tq.1, 100, .inl (fun _ => 0)))] := hD
  refine W.widen (k := 1) (n := 100) (Nat.le_of_ble_eq_true rfl) (Nat.le_of_ble_eq_true rfl) ?_
  refine va_putF (D := dg) (ci := 4) (v := .ref q7) (ty := (.array .int)) (C := RX4) (T := TX4) (N := 2) hx hb hts in4 tyX4 tyX4_ok nmX4 hown hK hP hD hS 0 rfl rfl 0 (by decide) f9 (fun _ h9 => h9) rfl hin rfl (by decide +kernel) rfl rfl (Nat.le_of_ble_eq_true rfl) dX4_init_9 (fun H locs hP hD hS => ?_)
  have hP : va_P dg vwCl [(x0, .inr (4, [.ref q7, .int 0])), (q7, .inl (tq.1, 100, .inl (fun _ => 0)))] H := hP
  have hD : va_D AA [(x0, .inr (4, [.ref q7, .int 0])), (q7, .inl (tq.1, 100, .inl (fun _ => 0)))] := hD
  refine lv_aload_n hx hb dX4_init_12 rfl (lv_at hl 0 rfl) ?_
  refine lv_iconst (v := (nI 0)) hx hb dX4_init_13 (by decide) ?_
  refine va_put (D := dg) (ci := 4) (v := .int (nI 0)) (ty := .int) (C := RX4) (T := TX4) (N := 2) hx hb hts in4 tyX4 tyX4_ok nmX4 hown hK hP hD hS 0 rfl rfl 1 (by decide) f15 (fun _ h9 => h9) rfl (by decide +kernel) rfl rfl (Nat.le_of_ble_eq_true rfl) dX4_init_14 (fun H locs hP hD hS => ?_)
  have hP : va_P dg vwCl [(x0, .inr (4, [.ref q7, .int (nI 0)])), (q7, .inl (tq.1, 100, .inl (fun _ => 0)))] H := hP
  have hD : va_D AA [(x0, .inr (4, [.ref q7, .int (nI 0)])), (q7, .inl (tq.1, 100, .inl (fun _ => 0)))] := hD
  exact hret (q7) H locs _ ls (trivial) (hP.sub [0, 1] rfl) (hD.sub [0, 1] (by decide) rfl) hS dX4_init_17
theorem hdX6_init : yX6_init.cls = RX6 ∧ yX6_init.cls ≠ "java/lang/invoke/MethodHandle" ∧ yX6_init.cls ≠ "java/lang/invoke/VarHandle" ∧ (parseMethodDescriptor yX6_init.desc).map (fun d => d.parameters.length) = some 0 := by decide +kernel
set_option maxHeartbeats 4000000 in
set_option maxRecDepth 100000 in
theorem kX6_init (ln : Launch) (dg : va_G) (tq : ClassId × ClassId) (x0 : Nat) : MC ln yX6_init wsX6_init (rmc 1 1 100 21) dg tq [.ref x0] [(x0, .inr (6, [.null, .int 0]))] (fun (u : Nat) => True) (fun u => [(x0, .inr (6, [.ref u, .int (nI 0)])), (u, .inl (tq.1, 100, .inl (fun _ => 0)))]) 1 100 := by
  refine MC.enter cX6_init 1 (by decide) rfl rfl (Nat.le_of_ble_eq_true rfl) ?_
  intro pP eE sS mM aA bB mT cC QQ AA hA hAT hin hret H locs hP hD hS ls hl
  obtain ⟨hx, hb, hml, hown, hts, hK, hN⟩ := hAT
  have hin : mT.name = "<init>" := hin
  have hown : sS.vm.findClass RX6 = some mM.cls := hown
  have hl : lv_has ls 1 [(0, .ref x0)] := hl
  have in6 : ∀ w ∈ u_ws RX6 TX6 2, w ∈ wsX6_init := (fun _ h9 => List.mem_cons_of_mem _ (List.mem_append_right _ h9))
  have ol := hts (.methodLink RX6 3 objectInit) (List.mem_of_getElem? (i := 1) rfl)
  have oi := hts (.instanceMethod objectInit) (List.mem_of_getElem? (i := 2) rfl)
  have oc := hts (.code objectInit ⟨#[0xb1]⟩ 1 none) (List.mem_of_getElem? (i := 3) rfl)
  have ar_int := hts (.arrayClass .int) (List.mem_of_getElem? (i := 4) rfl)
  have f9 := hts (.fieldLink RX6 9 "OrphanChain$Text" "signs" "[I") (List.mem_of_getElem? (i := 5) rfl)
  have f15 := hts (.fieldLink RX6 15 "OrphanChain$Text" "length" "I") (List.mem_of_getElem? (i := 6) rfl)
  refine lv_aload_n hx hb dX6_init_0 rfl (lv_at hl 0 rfl) ?_
  refine W.objInit hx hb hown ol oi oc rfl (by rw [hml]; exact hl.1) rfl dX6_init_1 (Nat.le_of_ble_eq_true rfl) (Nat.le_of_ble_eq_true rfl) ?_
  refine W.eq (g2 := F0 mM 4 ls []) rfl ?_
  refine lv_aload_n hx hb dX6_init_4 rfl (lv_at hl 0 rfl) ?_
  refine lv_bipush (v := (nI 100)) hx hb dX6_init_5 (by decide) ?_
  refine r_newi hx hb ar_int hK hP hD hS hA (n := 100) (by omega) (Nat.le_of_ble_eq_true rfl) (Nat.le_of_ble_eq_true rfl) dX6_init_7 (fun q7 H hP hD hS => ?_)
  have hP : va_P dg vwCl [(x0, .inr (6, [.null, .int 0])), (q7, .inl (tq.1, 100, .inl (fun _ => 0)))] H := hP
  have hD : va_D AA [(x0, .inr (6, [.null, .int 0])), (q7, .inl (tq.1, 100, .inl (fun _ => 0)))] := hD
  refine W.widen (k := 1) (n := 100) (Nat.le_of_ble_eq_true rfl) (Nat.le_of_ble_eq_true rfl) ?_
  refine va_putF (D := dg) (ci := 6) (v := .ref q7) (ty := (.array .int)) (C := RX6) (T := TX6) (N := 2) hx hb hts in6 tyX6 tyX6_ok nmX6 hown hK hP hD hS 0 rfl rfl 0 (by decide) f9 (fun _ h9 => h9) rfl hin rfl (by decide +kernel) rfl rfl (Nat.le_of_ble_eq_true rfl) dX6_init_9 (fun H locs hP hD hS => ?_)
  have hP : va_P dg vwCl [(x0, .inr (6, [.ref q7, .int 0])), (q7, .inl (tq.1, 100, .inl (fun _ => 0)))] H := hP
  have hD : va_D AA [(x0, .inr (6, [.ref q7, .int 0])), (q7, .inl (tq.1, 100, .inl (fun _ => 0)))] := hD
  refine lv_aload_n hx hb dX6_init_12 rfl (lv_at hl 0 rfl) ?_
  refine lv_iconst (v := (nI 0)) hx hb dX6_init_13 (by decide) ?_
  refine va_put (D := dg) (ci := 6) (v := .int (nI 0)) (ty := .int) (C := RX6) (T := TX6) (N := 2) hx hb hts in6 tyX6 tyX6_ok nmX6 hown hK hP hD hS 0 rfl rfl 1 (by decide) f15 (fun _ h9 => h9) rfl (by decide +kernel) rfl rfl (Nat.le_of_ble_eq_true rfl) dX6_init_14 (fun H locs hP hD hS => ?_)
  have hP : va_P dg vwCl [(x0, .inr (6, [.ref q7, .int (nI 0)])), (q7, .inl (tq.1, 100, .inl (fun _ => 0)))] H := hP
  have hD : va_D AA [(x0, .inr (6, [.ref q7, .int (nI 0)])), (q7, .inl (tq.1, 100, .inl (fun _ => 0)))] := hD
  exact hret (q7) H locs _ ls (trivial) (hP.sub [0, 1] rfl) (hD.sub [0, 1] (by decide) rfl) hS dX6_init_17
theorem hdX0_init : yX0_init.cls = RX0 ∧ yX0_init.cls ≠ "java/lang/invoke/MethodHandle" ∧ yX0_init.cls ≠ "java/lang/invoke/VarHandle" ∧ (parseMethodDescriptor yX0_init.desc).map (fun d => d.parameters.length) = some 0 := by decide +kernel
set_option maxHeartbeats 4000000 in
set_option maxRecDepth 100000 in
theorem kX0_init (ln : Launch) (dg : va_G) (tq : ClassId × ClassId) (x0 : Nat) : MC ln yX0_init wsX0_init (rmc 1 1 7365 21) dg tq [.ref x0] [(x0, .inr (0, [.null, .int 0, .int 0]))] (fun (u : Nat) => True) (fun u => [(x0, .inr (0, [.ref u, .int (nI 0), .int (nI 0)])), (u, .inl (tq.1, 7365, .inl (fun _ => 0)))]) 1 7365 := by
  refine MC.enter cX0_init 1 (by decide) rfl rfl (Nat.le_of_ble_eq_true rfl) ?_
  intro pP eE sS mM aA bB mT cC QQ AA hA hAT hin hret H locs hP hD hS ls hl
  obtain ⟨hx, hb, hml, hown, hts, hK, hN⟩ := hAT
  have hin : mT.name = "<init>" := hin
  have hown : sS.vm.findClass RX0 = some mM.cls := hown
  have hl : lv_has ls 1 [(0, .ref x0)] := hl
  have in0 : ∀ w ∈ u_ws RX0 TX0 3, w ∈ wsX0_init := (fun _ h9 => List.mem_cons_of_mem _ (List.mem_append_right _ h9))
  have ol := hts (.methodLink RX0 3 objectInit) (List.mem_of_getElem? (i := 1) rfl)
  have oi := hts (.instanceMethod objectInit) (List.mem_of_getElem? (i := 2) rfl)
  have oc := hts (.code objectInit ⟨#[0xb1]⟩ 1 none) (List.mem_of_getElem? (i := 3) rfl)
  have ar_int := hts (.arrayClass .int) (List.mem_of_getElem? (i := 4) rfl)
  have f9 := hts (.fieldLink RX0 9 "OrphanChain$History" "cells" "[I") (List.mem_of_getElem? (i := 5) rfl)
  have f15 := hts (.fieldLink RX0 15 "OrphanChain$History" "states" "I") (List.mem_of_getElem? (i := 6) rfl)
  have f19 := hts (.fieldLink RX0 19 "OrphanChain$History" "next" "I") (List.mem_of_getElem? (i := 7) rfl)
  refine lv_aload_n hx hb dX0_init_0 rfl (lv_at hl 0 rfl) ?_
  refine W.objInit hx hb hown ol oi oc rfl (by rw [hml]; exact hl.1) rfl dX0_init_1 (Nat.le_of_ble_eq_true rfl) (Nat.le_of_ble_eq_true rfl) ?_
  refine W.eq (g2 := F0 mM 4 ls []) rfl ?_
  refine lv_aload_n hx hb dX0_init_4 rfl (lv_at hl 0 rfl) ?_
  refine lv_sipush (v := (nI 7365)) hx hb dX0_init_5 (by decide) ?_
  refine r_newi hx hb ar_int hK hP hD hS hA (n := 7365) (by omega) (Nat.le_of_ble_eq_true rfl) (Nat.le_of_ble_eq_true rfl) dX0_init_8 (fun q8 H hP hD hS => ?_)
  have hP : va_P dg vwCl [(x0, .inr (0, [.null, .int 0, .int 0])), (q8, .inl (tq.1, 7365, .inl (fun _ => 0)))] H := hP
  have hD : va_D AA [(x0, .inr (0, [.null, .int 0, .int 0])), (q8, .inl (tq.1, 7365, .inl (fun _ => 0)))] := hD
  refine W.widen (k := 1) (n := 7365) (Nat.le_of_ble_eq_true rfl) (Nat.le_of_ble_eq_true rfl) ?_
  refine va_putF (D := dg) (ci := 0) (v := .ref q8) (ty := (.array .int)) (C := RX0) (T := TX0) (N := 3) hx hb hts in0 tyX0 tyX0_ok nmX0 hown hK hP hD hS 0 rfl rfl 0 (by decide) f9 (fun _ h9 => h9) rfl hin rfl (by decide +kernel) rfl rfl (Nat.le_of_ble_eq_true rfl) dX0_init_10 (fun H locs hP hD hS => ?_)
  have hP : va_P dg vwCl [(x0, .inr (0, [.ref q8, .int 0, .int 0])), (q8, .inl (tq.1, 7365, .inl (fun _ => 0)))] H := hP
  have hD : va_D AA [(x0, .inr (0, [.ref q8, .int 0, .int 0])), (q8, .inl (tq.1, 7365, .inl (fun _ => 0)))] := hD
  refine lv_aload_n hx hb dX0_init_13 rfl (lv_at hl 0 rfl) ?_
  refine lv_iconst (v := (nI 0)) hx hb dX0_init_14 (by decide) ?_
  refine va_put (D := dg) (ci := 0) (v := .int (nI 0)) (ty := .int) (C := RX0) (T := TX0) (N := 3) hx hb hts in0 tyX0 tyX0_ok nmX0 hown hK hP hD hS 0 rfl rfl 1 (by decide) f15 (fun _ h9 => h9) rfl (by decide +kernel) rfl rfl (Nat.le_of_ble_eq_true rfl) dX0_init_15 (fun H locs hP hD hS => ?_)
  have hP : va_P dg vwCl [(x0, .inr (0, [.ref q8, .int (nI 0), .int 0])), (q8, .inl (tq.1, 7365, .inl (fun _ => 0)))] H := hP
  have hD : va_D AA [(x0, .inr (0, [.ref q8, .int (nI 0), .int 0])), (q8, .inl (tq.1, 7365, .inl (fun _ => 0)))] := hD
  refine lv_aload_n hx hb dX0_init_18 rfl (lv_at hl 0 rfl) ?_
  refine lv_iconst (v := (nI 0)) hx hb dX0_init_19 (by decide) ?_
  refine va_put (D := dg) (ci := 0) (v := .int (nI 0)) (ty := .int) (C := RX0) (T := TX0) (N := 3) hx hb hts in0 tyX0 tyX0_ok nmX0 hown hK hP hD hS 0 rfl rfl 2 (by decide) f19 (fun _ h9 => h9) rfl (by decide +kernel) rfl rfl (Nat.le_of_ble_eq_true rfl) dX0_init_20 (fun H locs hP hD hS => ?_)
  have hP : va_P dg vwCl [(x0, .inr (0, [.ref q8, .int (nI 0), .int (nI 0)])), (q8, .inl (tq.1, 7365, .inl (fun _ => 0)))] H := hP
  have hD : va_D AA [(x0, .inr (0, [.ref q8, .int (nI 0), .int (nI 0)])), (q8, .inl (tq.1, 7365, .inl (fun _ => 0)))] := hD
  exact hret (q8) H locs _ ls (trivial) (hP.sub [0, 1] rfl) (hD.sub [0, 1] (by decide) rfl) hS dX0_init_23
theorem hdX1_init : yX1_init.cls = RX1 ∧ yX1_init.cls ≠ "java/lang/invoke/MethodHandle" ∧ yX1_init.cls ≠ "java/lang/invoke/VarHandle" ∧ (parseMethodDescriptor yX1_init.desc).map (fun d => d.parameters.length) = some 0 := by decide +kernel
set_option maxHeartbeats 4000000 in
set_option maxRecDepth 100000 in
theorem kX1_init (ln : Launch) (dg : va_G) (tq : ClassId × ClassId) (x0 : Nat) : MC ln yX1_init wsX1_init (rmc 1 1 1473 23) dg tq [.ref x0] [(x0, .inr (1, [.null]))] (fun (u : Nat) => True) (fun u => [(x0, .inr (1, [.ref u])), (u, .inl (tq.1, 1473, .inl led0))]) 1 1473 := by
  refine MC.enter cX1_init 1 (by decide) rfl rfl (Nat.le_of_ble_eq_true rfl) ?_
  intro pP eE sS mM aA bB mT cC QQ AA hA hAT hin hret H locs hP hD hS ls hl
  obtain ⟨hx, hb, hml, hown, hts, hK, hN⟩ := hAT
  have hin : mT.name = "<init>" := hin
  have hown : sS.vm.findClass RX1 = some mM.cls := hown
  have hl : lv_has ls 1 [(0, .ref x0)] := hl
  have in1 : ∀ w ∈ u_ws RX1 TX1 1, w ∈ wsX1_init := (fun _ h9 => List.mem_cons_of_mem _ (List.mem_append_right _ h9))
  have ol := hts (.methodLink RX1 3 objectInit) (List.mem_of_getElem? (i := 1) rfl)
  have oi := hts (.instanceMethod objectInit) (List.mem_of_getElem? (i := 2) rfl)
  have oc := hts (.code objectInit ⟨#[0xb1]⟩ 1 none) (List.mem_of_getElem? (i := 3) rfl)
  have ar_int := hts (.arrayClass .int) (List.mem_of_getElem? (i := 4) rfl)
  have f9 := hts (.fieldLink RX1 9 "OrphanChain$Ledger" "cells" "[I") (List.mem_of_getElem? (i := 5) rfl)
  have k19 := hts (.constant RX1 19 (-100009)) (List.mem_of_getElem? (i := 6) rfl)
  refine lv_aload_n hx hb dX1_init_0 rfl (lv_at hl 0 rfl) ?_
  refine W.objInit hx hb hown ol oi oc rfl (by rw [hml]; exact hl.1) rfl dX1_init_1 (Nat.le_of_ble_eq_true rfl) (Nat.le_of_ble_eq_true rfl) ?_
  refine W.eq (g2 := F0 mM 4 ls []) rfl ?_
  refine lv_aload_n hx hb dX1_init_4 rfl (lv_at hl 0 rfl) ?_
  refine lv_sipush (v := (nI 1473)) hx hb dX1_init_5 (by decide) ?_
  refine r_newi hx hb ar_int hK hP hD hS hA (n := 1473) (by omega) (Nat.le_of_ble_eq_true rfl) (Nat.le_of_ble_eq_true rfl) dX1_init_8 (fun q8 H hP hD hS => ?_)
  have hP : va_P dg vwCl [(x0, .inr (1, [.null])), (q8, .inl (tq.1, 1473, .inl (fun _ => 0)))] H := hP
  have hD : va_D AA [(x0, .inr (1, [.null])), (q8, .inl (tq.1, 1473, .inl (fun _ => 0)))] := hD
  refine W.widen (k := 1) (n := 1473) (Nat.le_of_ble_eq_true rfl) (Nat.le_of_ble_eq_true rfl) ?_
  refine va_putF (D := dg) (ci := 1) (v := .ref q8) (ty := (.array .int)) (C := RX1) (T := TX1) (N := 1) hx hb hts in1 tyX1 tyX1_ok nmX1 hown hK hP hD hS 0 rfl rfl 0 (by decide) f9 (fun _ h9 => h9) rfl hin rfl (by decide +kernel) rfl rfl (Nat.le_of_ble_eq_true rfl) dX1_init_10 (fun H locs hP hD hS => ?_)
  have hP : va_P dg vwCl [(x0, .inr (1, [.ref q8])), (q8, .inl (tq.1, 1473, .inl (fun _ => 0)))] H := hP
  have hD : va_D AA [(x0, .inr (1, [.ref q8])), (q8, .inl (tq.1, 1473, .inl (fun _ => 0)))] := hD
  refine lv_aload_n hx hb dX1_init_13 rfl (lv_at hl 0 rfl) ?_
  refine lv_iconst (v := (nI 0)) hx hb dX1_init_14 (by decide) ?_
  refine lv_iconst (v := (nI 1)) hx hb dX1_init_15 (by decide) ?_
  refine call_v (wr := []) (va_runV (As := [.int (nI 0), .int (nI 1)]) (rest := []) ⟨hx, hb, hml, hown, hts⟩ (kX1_setNumber ln dg tq (h0 := x0) (h1 := q8) (c := (fun _ => 0)) (k := 0) (v := (nI 1)) (hk := (by omega)) H.size) (cwV 2 hts gX1_init_X1_setNumber rfl rfl rfl hdX1_setNumber ⟨Nat.le_of_ble_eq_true rfl, Nat.le_of_ble_eq_true rfl⟩) (preVB hK hN hP hD [0, 1] rfl rfl rfl 0 rfl rfl [.int (nI 0), .int (nI 1)]) rfl rfl hl.1 rfl (lv_room (Nat.le_of_ble_eq_true rfl)) dX1_init_16 ⟨Nat.le_refl _, Nat.le_refl _⟩) hP hD hS hA [0, 1] [] rfl rfl (by decide) (by decide) (fun u16 H locs hw16 hP hD hS => ?_)
  have hP : va_P dg vwCl [(x0, .inr (1, [.ref q8])), (q8, .inl (tq.1, 1473, .inl (upd (fun _ => 0) 0 (nI 1))))] H := hP
  have hD : va_D AA [(x0, .inr (1, [.ref q8])), (q8, .inl (tq.1, 1473, .inl (upd (fun _ => 0) 0 (nI 1))))] := hD
  refine lv_aload_n hx hb dX1_init_19 rfl (lv_at hl 0 rfl) ?_
  refine lv_iconst (v := (nI 2)) hx hb dX1_init_20 (by decide) ?_
  refine lv_iconst (v := (nI 3)) hx hb dX1_init_21 (by decide) ?_
  refine call_v (wr := []) (va_runV (As := [.int (nI 2), .int (nI 3)]) (rest := []) ⟨hx, hb, hml, hown, hts⟩ (kX1_setNumber ln dg tq (h0 := x0) (h1 := q8) (c := upd (fun _ => 0) 0 (nI 1)) (k := 2) (v := (nI 3)) (hk := (by omega)) H.size) (cwV 2 hts gX1_init_X1_setNumber rfl rfl rfl hdX1_setNumber ⟨Nat.le_of_ble_eq_true rfl, Nat.le_of_ble_eq_true rfl⟩) (preVB hK hN hP hD [0, 1] rfl rfl rfl 0 rfl rfl [.int (nI 2), .int (nI 3)]) rfl rfl hl.1 rfl (lv_room (Nat.le_of_ble_eq_true rfl)) dX1_init_22 ⟨Nat.le_refl _, Nat.le_refl _⟩) hP hD hS hA [0, 1] [] rfl rfl (by decide) (by decide) (fun u22 H locs hw22 hP hD hS => ?_)
  have hP : va_P dg vwCl [(x0, .inr (1, [.ref q8])), (q8, .inl (tq.1, 1473, .inl (upd (upd (fun _ => 0) 0 (nI 1)) 2 (nI 3))))] H := hP
  have hD : va_D AA [(x0, .inr (1, [.ref q8])), (q8, .inl (tq.1, 1473, .inl (upd (upd (fun _ => 0) 0 (nI 1)) 2 (nI 3))))] := hD
  refine lv_aload_n hx hb dX1_init_25 rfl (lv_at hl 0 rfl) ?_
  refine lv_iconst (v := (nI 0)) hx hb dX1_init_26 (by decide) ?_
  refine lv_iconst (v := (nI 4)) hx hb dX1_init_27 (by decide) ?_
  refine lv_ldc hx hb hown k19 dX1_init_28 ?_
  refine call_v (wr := []) (va_runV (As := [.int (nI 0), .int (nI 4), .int (-100009)]) (rest := []) ⟨hx, hb, hml, hown, hts⟩ (kX1_setOfEntry ln dg tq (h0 := x0) (h1 := q8) (c := upd (upd (fun _ => 0) 0 (nI 1)) 2 (nI 3)) (e := 0) (f := 4) (v := (-100009)) (he := (by omega)) (hf := (by omega)) H.size) (cwV 3 hts gX1_init_X1_setOfEntry rfl rfl rfl hdX1_setOfEntry ⟨Nat.le_of_ble_eq_true rfl, Nat.le_of_ble_eq_true rfl⟩) (preVB hK hN hP hD [0, 1] rfl rfl rfl 0 rfl rfl [.int (nI 0), .int (nI 4), .int (-100009)]) rfl rfl hl.1 rfl (lv_room (Nat.le_of_ble_eq_true rfl)) dX1_init_30 ⟨Nat.le_refl _, Nat.le_refl _⟩) hP hD hS hA [0, 1] [] rfl rfl (by decide) (by decide) (fun u30 H locs hw30 hP hD hS => ?_)
  have hP : va_P dg vwCl [(x0, .inr (1, [.ref q8])), (q8, .inl (tq.1, 1473, .inl (upd (upd (upd (fun _ => 0) 0 (nI 1)) 2 (nI 3)) (5 + 0 * 7 + 4) (-100009))))] H := hP
  have hD : va_D AA [(x0, .inr (1, [.ref q8])), (q8, .inl (tq.1, 1473, .inl (upd (upd (upd (fun _ => 0) 0 (nI 1)) 2 (nI 3)) (5 + 0 * 7 + 4) (-100009))))] := hD
  refine lv_aload_n hx hb dX1_init_33 rfl (lv_at hl 0 rfl) ?_
  refine lv_iconst (v := (nI 0)) hx hb dX1_init_34 (by decide) ?_
  refine lv_iconst (v := (nI 5)) hx hb dX1_init_35 (by decide) ?_
  refine lv_iconst (v := (nI 1)) hx hb dX1_init_36 (by decide) ?_
  refine call_v (wr := []) (va_runV (As := [.int (nI 0), .int (nI 5), .int (nI 1)]) (rest := []) ⟨hx, hb, hml, hown, hts⟩ (kX1_setOfEntry ln dg tq (h0 := x0) (h1 := q8) (c := upd (upd (upd (fun _ => 0) 0 (nI 1)) 2 (nI 3)) (5 + 0 * 7 + 4) (-100009)) (e := 0) (f := 5) (v := (nI 1)) (he := (by omega)) (hf := (by omega)) H.size) (cwV 3 hts gX1_init_X1_setOfEntry rfl rfl rfl hdX1_setOfEntry ⟨Nat.le_of_ble_eq_true rfl, Nat.le_of_ble_eq_true rfl⟩) (preVB hK hN hP hD [0, 1] rfl rfl rfl 0 rfl rfl [.int (nI 0), .int (nI 5), .int (nI 1)]) rfl rfl hl.1 rfl (lv_room (Nat.le_of_ble_eq_true rfl)) dX1_init_37 ⟨Nat.le_refl _, Nat.le_refl _⟩) hP hD hS hA [0, 1] [] rfl rfl (by decide) (by decide) (fun u37 H locs hw37 hP hD hS => ?_)
  have hP : va_P dg vwCl [(x0, .inr (1, [.ref q8])), (q8, .inl (tq.1, 1473, .inl (upd (upd (upd (upd (fun _ => 0) 0 (nI 1)) 2 (nI 3)) (5 + 0 * 7 + 4) (-100009)) (5 + 0 * 7 + 5) (nI 1))))] H := hP
  have hD : va_D AA [(x0, .inr (1, [.ref q8])), (q8, .inl (tq.1, 1473, .inl (upd (upd (upd (upd (fun _ => 0) 0 (nI 1)) 2 (nI 3)) (5 + 0 * 7 + 4) (-100009)) (5 + 0 * 7 + 5) (nI 1))))] := hD
  refine lv_aload_n hx hb dX1_init_40 rfl (lv_at hl 0 rfl) ?_
  refine lv_iconst (v := (nI 0)) hx hb dX1_init_41 (by decide) ?_
  refine lv_bipush (v := (nI 6)) hx hb dX1_init_42 (by decide) ?_
  refine lv_ldc hx hb hown k19 dX1_init_44 ?_
  refine call_v (wr := []) (va_runV (As := [.int (nI 0), .int (nI 6), .int (-100009)]) (rest := []) ⟨hx, hb, hml, hown, hts⟩ (kX1_setOfEntry ln dg tq (h0 := x0) (h1 := q8) (c := upd (upd (upd (upd (fun _ => 0) 0 (nI 1)) 2 (nI 3)) (5 + 0 * 7 + 4) (-100009)) (5 + 0 * 7 + 5) (nI 1)) (e := 0) (f := 6) (v := (-100009)) (he := (by omega)) (hf := (by omega)) H.size) (cwV 3 hts gX1_init_X1_setOfEntry rfl rfl rfl hdX1_setOfEntry ⟨Nat.le_of_ble_eq_true rfl, Nat.le_of_ble_eq_true rfl⟩) (preVB hK hN hP hD [0, 1] rfl rfl rfl 0 rfl rfl [.int (nI 0), .int (nI 6), .int (-100009)]) rfl rfl hl.1 rfl (lv_room (Nat.le_of_ble_eq_true rfl)) dX1_init_46 ⟨Nat.le_refl _, Nat.le_refl _⟩) hP hD hS hA [0, 1] [] rfl rfl (by decide) (by decide) (fun u46 H locs hw46 hP hD hS => ?_)
  have hP : va_P dg vwCl [(x0, .inr (1, [.ref q8])), (q8, .inl (tq.1, 1473, .inl (upd (upd (upd (upd (upd (fun _ => 0) 0 (nI 1)) 2 (nI 3)) (5 + 0 * 7 + 4) (-100009)) (5 + 0 * 7 + 5) (nI 1)) (5 + 0 * 7 + 6) (-100009))))] H := hP
  have hD : va_D AA [(x0, .inr (1, [.ref q8])), (q8, .inl (tq.1, 1473, .inl (upd (upd (upd (upd (upd (fun _ => 0) 0 (nI 1)) 2 (nI 3)) (5 + 0 * 7 + 4) (-100009)) (5 + 0 * 7 + 5) (nI 1)) (5 + 0 * 7 + 6) (-100009))))] := hD
  have ew : (upd (upd (upd (upd (upd (fun _ => 0) 0 (nI 1)) 2 (nI 3)) (5 + 0 * 7 + 4) (-100009)) (5 + 0 * 7 + 5) (nI 1)) (5 + 0 * 7 + 6) (-100009)) = led0 := rfl
  have hP : va_P dg vwCl [(x0, .inr (1, [.ref q8])), (q8, .inl (tq.1, 1473, .inl led0))] H := by rw [← ew]; exact hP
  have hD : va_D AA [(x0, .inr (1, [.ref q8])), (q8, .inl (tq.1, 1473, .inl led0))] := by rw [← ew]; exact hD
  exact hret (q8) H locs _ ls (trivial) (hP.sub [0, 1] rfl) (hD.sub [0, 1] (by decide) rfl) hS dX1_init_49
theorem hdX2_init : yX2_init.cls = RX2 ∧ yX2_init.cls ≠ "java/lang/invoke/MethodHandle" ∧ yX2_init.cls ≠ "java/lang/invoke/VarHandle" ∧ (parseMethodDescriptor yX2_init.desc).map (fun d => d.parameters.length) = some 0 := by decide +kernel
set_option maxHeartbeats 4000000 in
set_option maxRecDepth 100000 in
theorem kX2_init (ln : Launch) (dg : va_G) (tq : ClassId × ClassId) (x0 : Nat) : MC ln yX2_init wsX2_init (rmc 2 8 113 41) dg tq [.ref x0] [(x0, .inr (2, [.null, .null, .null, .null, .null, .int 0]))] (fun (u : Nat × Nat × Nat × Nat × Nat × Nat × Nat × Nat) => True) (fun u => [(x0, .inr (2, [.ref u.1, .ref u.2.1, .ref u.2.2.1, .ref u.2.2.2.2.1, .ref u.2.2.2.2.2.2.1, .int (nI 0)])), (u.1, .inl (tq.1, 5, .inl (fun _ => 0))), (u.2.1, .inl (tq.1, 32, .inl (fun _ => 0))), (u.2.2.1, .inr (5, [.ref u.2.2.2.1])), (u.2.2.2.1, .inl (tq.1, 6, .inl (fun _ => 0))), (u.2.2.2.2.1, .inr (5, [.ref u.2.2.2.2.2.1])), (u.2.2.2.2.2.1, .inl (tq.1, 6, .inl (fun _ => 0))), (u.2.2.2.2.2.2.1, .inr (3, [.ref u.2.2.2.2.2.2.2, .int (nI 0)])), (u.2.2.2.2.2.2.2, .inl (tq.1, 60, .inl (fun _ => 0)))]) 8 113 := by
  refine MC.enter cX2_init 1 (by decide) rfl rfl (Nat.le_of_ble_eq_true rfl) ?_
  intro pP eE sS mM aA bB mT cC QQ AA hA hAT hin hret H locs hP hD hS ls hl
  obtain ⟨hx, hb, hml, hown, hts, hK, hN⟩ := hAT
  have hin : mT.name = "<init>" := hin
  have hown : sS.vm.findClass RX2 = some mM.cls := hown
  have hl : lv_has ls 1 [(0, .ref x0)] := hl
  have in2 : ∀ w ∈ u_ws RX2 TX2 6, w ∈ wsX2_init := (fun _ h9 => List.mem_cons_of_mem _ (List.mem_append_left _ (List.mem_append_left _ (List.mem_append_right _ h9))))
  have in5 : ∀ w ∈ u_ws RX5 TX5 1, w ∈ wsX2_init := (fun _ h9 => List.mem_cons_of_mem _ (List.mem_append_left _ (List.mem_append_right _ h9)))
  have in3 : ∀ w ∈ u_ws RX3 TX3 2, w ∈ wsX2_init := (fun _ h9 => List.mem_cons_of_mem _ (List.mem_append_right _ h9))
  have ol := hts (.methodLink RX2 3 objectInit) (List.mem_of_getElem? (i := 1) rfl)
  have oi := hts (.instanceMethod objectInit) (List.mem_of_getElem? (i := 2) rfl)
  have oc := hts (.code objectInit ⟨#[0xb1]⟩ 1 none) (List.mem_of_getElem? (i := 3) rfl)
  have ar_int := hts (.arrayClass .int) (List.mem_of_getElem? (i := 4) rfl)
  have f9 := hts (.fieldLink RX2 9 "OrphanChain$Orders" "waiting" "[I") (List.mem_of_getElem? (i := 5) rfl)
  have f15 := hts (.fieldLink RX2 15 "OrphanChain$Orders" "ways" "[I") (List.mem_of_getElem? (i := 6) rfl)
  have cl18 := hts (.classLink RX2 18 RX5) (List.mem_of_getElem? (i := 7) rfl)
  have is5 := hts (.instantiable RX5 1) (List.mem_of_getElem? (i := 8) rfl)
  have iz5 := hts (.initialized RX5) (List.mem_of_getElem? (i := 9) rfl)
  have imX5_init := hts (.instanceMethod yX5_init) (List.mem_of_getElem? (i := 17) rfl)
  have f21 := hts (.fieldLink RX2 21 "OrphanChain$Orders" "behind" "LOrphanChain$Purse;") (List.mem_of_getElem? (i := 10) rfl)
  have f25 := hts (.fieldLink RX2 25 "OrphanChain$Orders" "trial" "LOrphanChain$Purse;") (List.mem_of_getElem? (i := 11) rfl)
  have cl28 := hts (.classLink RX2 28 RX3) (List.mem_of_getElem? (i := 12) rfl)
  have is3 := hts (.instantiable RX3 2) (List.mem_of_getElem? (i := 13) rfl)
  have iz3 := hts (.initialized RX3) (List.mem_of_getElem? (i := 14) rfl)
  have imX3_init := hts (.instanceMethod yX3_init) (List.mem_of_getElem? (i := 21) rfl)
  have f31 := hts (.fieldLink RX2 31 "OrphanChain$Orders" "path" "LOrphanChain$Path;") (List.mem_of_getElem? (i := 15) rfl)
  have f35 := hts (.fieldLink RX2 35 "OrphanChain$Orders" "size" "I") (List.mem_of_getElem? (i := 16) rfl)
  refine lv_aload_n hx hb dX2_init_0 rfl (lv_at hl 0 rfl) ?_
  refine W.objInit hx hb hown ol oi oc rfl (by rw [hml]; exact hl.1) rfl dX2_init_1 (Nat.le_of_ble_eq_true rfl) (Nat.le_of_ble_eq_true rfl) ?_
  refine W.eq (g2 := F0 mM 4 ls []) rfl ?_
  refine lv_aload_n hx hb dX2_init_4 rfl (lv_at hl 0 rfl) ?_
  refine lv_iconst (v := (nI 5)) hx hb dX2_init_5 (by decide) ?_
  refine r_newi hx hb ar_int hK hP hD hS hA (n := 5) (by omega) (Nat.le_of_ble_eq_true rfl) (Nat.le_of_ble_eq_true rfl) dX2_init_6 (fun q6 H hP hD hS => ?_)
  have hP : va_P dg vwCl [(x0, .inr (2, [.null, .null, .null, .null, .null, .int 0])), (q6, .inl (tq.1, 5, .inl (fun _ => 0)))] H := hP
  have hD : va_D AA [(x0, .inr (2, [.null, .null, .null, .null, .null, .int 0])), (q6, .inl (tq.1, 5, .inl (fun _ => 0)))] := hD
  refine W.widen (k := 1) (n := 5) (Nat.le_of_ble_eq_true rfl) (Nat.le_of_ble_eq_true rfl) ?_
  refine va_putF (D := dg) (ci := 2) (v := .ref q6) (ty := (.array .int)) (C := RX2) (T := TX2) (N := 6) hx hb hts in2 tyX2 tyX2_ok nmX2 hown hK hP hD hS 0 rfl rfl 0 (by decide) f9 (fun _ h9 => h9) rfl hin rfl (by decide +kernel) rfl rfl (Nat.le_of_ble_eq_true rfl) dX2_init_8 (fun H locs hP hD hS => ?_)
  have hP : va_P dg vwCl [(x0, .inr (2, [.ref q6, .null, .null, .null, .null, .int 0])), (q6, .inl (tq.1, 5, .inl (fun _ => 0)))] H := hP
  have hD : va_D AA [(x0, .inr (2, [.ref q6, .null, .null, .null, .null, .int 0])), (q6, .inl (tq.1, 5, .inl (fun _ => 0)))] := hD
  refine lv_aload_n hx hb dX2_init_11 rfl (lv_at hl 0 rfl) ?_
  refine lv_bipush (v := (nI 32)) hx hb dX2_init_12 (by decide) ?_
  refine r_newi hx hb ar_int hK hP hD hS hA (n := 32) (by omega) (Nat.le_of_ble_eq_true rfl) (Nat.le_of_ble_eq_true rfl) dX2_init_14 (fun q14 H hP hD hS => ?_)
  have hP : va_P dg vwCl [(x0, .inr (2, [.ref q6, .null, .null, .null, .null, .int 0])), (q6, .inl (tq.1, 5, .inl (fun _ => 0))), (q14, .inl (tq.1, 32, .inl (fun _ => 0)))] H := hP
  have hD : va_D AA [(x0, .inr (2, [.ref q6, .null, .null, .null, .null, .int 0])), (q6, .inl (tq.1, 5, .inl (fun _ => 0))), (q14, .inl (tq.1, 32, .inl (fun _ => 0)))] := hD
  refine W.widen (k := 2) (n := 37) (Nat.le_of_ble_eq_true rfl) (Nat.le_of_ble_eq_true rfl) ?_
  refine va_putF (D := dg) (ci := 2) (v := .ref q14) (ty := (.array .int)) (C := RX2) (T := TX2) (N := 6) hx hb hts in2 tyX2 tyX2_ok nmX2 hown hK hP hD hS 0 rfl rfl 1 (by decide) f15 (fun _ h9 => h9) rfl hin rfl (by decide +kernel) rfl rfl (Nat.le_of_ble_eq_true rfl) dX2_init_16 (fun H locs hP hD hS => ?_)
  have hP : va_P dg vwCl [(x0, .inr (2, [.ref q6, .ref q14, .null, .null, .null, .int 0])), (q6, .inl (tq.1, 5, .inl (fun _ => 0))), (q14, .inl (tq.1, 32, .inl (fun _ => 0)))] H := hP
  have hD : va_D AA [(x0, .inr (2, [.ref q6, .ref q14, .null, .null, .null, .int 0])), (q6, .inl (tq.1, 5, .inl (fun _ => 0))), (q14, .inl (tq.1, 32, .inl (fun _ => 0)))] := hD
  refine lv_aload_n hx hb dX2_init_19 rfl (lv_at hl 0 rfl) ?_
  refine va_new (ci := 5) (fs := [.null]) (C := RX5) (T := TX5) (N := 1) hx hb hts in5 tyX5 tyX5_ok hown cl18 is5 iz5 hK hP hD hS hA rfl (fun j hj => by rcases (show j = 0 by omega) with rfl <;> rfl) (Nat.le_of_ble_eq_true rfl) (Nat.le_of_ble_eq_true rfl) dX2_init_20 (fun q20 H hP hD hS => ?_)
  have hP : va_P dg vwCl [(x0, .inr (2, [.ref q6, .ref q14, .null, .null, .null, .int 0])), (q6, .inl (tq.1, 5, .inl (fun _ => 0))), (q14, .inl (tq.1, 32, .inl (fun _ => 0))), (q20, .inr (5, [.null]))] H := hP
  have hD : va_D AA [(x0, .inr (2, [.ref q6, .ref q14, .null, .null, .null, .int 0])), (q6, .inl (tq.1, 5, .inl (fun _ => 0))), (q14, .inl (tq.1, 32, .inl (fun _ => 0))), (q20, .inr (5, [.null]))] := hD
  refine W.widen (k := 3) (n := 38) (Nat.le_of_ble_eq_true rfl) (Nat.le_of_ble_eq_true rfl) ?_
  refine lv_dup hx hb dX2_init_23 rfl ?_
  refine call_c (wr := [(x0, .inr (2, [.ref q6, .ref q14, .null, .null, .null, .int 0])), (q6, .inl (tq.1, 5, .inl (fun _ => 0))), (q14, .inl (tq.1, 32, .inl (fun _ => 0)))]) (va_runIN (As := []) (rest := [.ref q20, .ref x0]) ⟨hx, hb, hml, hown, hts⟩ (kX5_init ln dg tq (x0 := q20) H.size) ⟨va_cnB 0 hts gX2_init_X5_init_n20 rfl rfl rfl hN.2.2.2.2.2.2.2.2.1 iz5 hdX5_init.2 ⟨Nat.le_of_ble_eq_true rfl, Nat.le_of_ble_eq_true rfl⟩, rfl, imX5_init⟩ (preIB hK hN hP hD [3] rfl rfl rfl q20 []) rfl rfl hl.1 rfl (lv_room (Nat.le_of_ble_eq_true rfl)) dX2_init_24 ⟨Nat.le_of_ble_eq_true rfl, Nat.le_of_ble_eq_true rfl⟩) hP hD hS hA [3] [0, 1, 2] rfl rfl (by decide) (by decide) (fun u24 H locs hw24 hP hD hS => ?_)
  obtain ⟨a124, rfl⟩ : ∃ z, z = u24 := ⟨_, rfl⟩
  have hP : va_P dg vwCl [(x0, .inr (2, [.ref q6, .ref q14, .null, .null, .null, .int 0])), (q6, .inl (tq.1, 5, .inl (fun _ => 0))), (q14, .inl (tq.1, 32, .inl (fun _ => 0))), (q20, .inr (5, [.ref a124])), (a124, .inl (tq.1, 6, .inl (fun _ => 0)))] H := hP
  have hD : va_D AA [(x0, .inr (2, [.ref q6, .ref q14, .null, .null, .null, .int 0])), (q6, .inl (tq.1, 5, .inl (fun _ => 0))), (q14, .inl (tq.1, 32, .inl (fun _ => 0))), (q20, .inr (5, [.ref a124])), (a124, .inl (tq.1, 6, .inl (fun _ => 0)))] := hD
  refine W.widen (k := 4) (n := 44) (Nat.le_of_ble_eq_true rfl) (Nat.le_of_ble_eq_true rfl) ?_
  refine va_putF (D := dg) (ci := 2) (v := .ref q20) (ty := (.object "OrphanChain$Purse")) (C := RX2) (T := TX2) (N := 6) hx hb hts in2 tyX2 tyX2_ok nmX2 hown hK hP hD hS 0 rfl rfl 2 (by decide) f21 (fun _ h9 => h9) rfl hin rfl (by decide +kernel) rfl rfl (Nat.le_of_ble_eq_true rfl) dX2_init_27 (fun H locs hP hD hS => ?_)
  have hP : va_P dg vwCl [(x0, .inr (2, [.ref q6, .ref q14, .ref q20, .null, .null, .int 0])), (q6, .inl (tq.1, 5, .inl (fun _ => 0))), (q14, .inl (tq.1, 32, .inl (fun _ => 0))), (q20, .inr (5, [.ref a124])), (a124, .inl (tq.1, 6, .inl (fun _ => 0)))] H := hP
  have hD : va_D AA [(x0, .inr (2, [.ref q6, .ref q14, .ref q20, .null, .null, .int 0])), (q6, .inl (tq.1, 5, .inl (fun _ => 0))), (q14, .inl (tq.1, 32, .inl (fun _ => 0))), (q20, .inr (5, [.ref a124])), (a124, .inl (tq.1, 6, .inl (fun _ => 0)))] := hD
  refine lv_aload_n hx hb dX2_init_30 rfl (lv_at hl 0 rfl) ?_
  refine va_new (ci := 5) (fs := [.null]) (C := RX5) (T := TX5) (N := 1) hx hb hts in5 tyX5 tyX5_ok hown cl18 is5 iz5 hK hP hD hS hA rfl (fun j hj => by rcases (show j = 0 by omega) with rfl <;> rfl) (Nat.le_of_ble_eq_true rfl) (Nat.le_of_ble_eq_true rfl) dX2_init_31 (fun q31 H hP hD hS => ?_)
  have hP : va_P dg vwCl [(x0, .inr (2, [.ref q6, .ref q14, .ref q20, .null, .null, .int 0])), (q6, .inl (tq.1, 5, .inl (fun _ => 0))), (q14, .inl (tq.1, 32, .inl (fun _ => 0))), (q20, .inr (5, [.ref a124])), (a124, .inl (tq.1, 6, .inl (fun _ => 0))), (q31, .inr (5, [.null]))] H := hP
  have hD : va_D AA [(x0, .inr (2, [.ref q6, .ref q14, .ref q20, .null, .null, .int 0])), (q6, .inl (tq.1, 5, .inl (fun _ => 0))), (q14, .inl (tq.1, 32, .inl (fun _ => 0))), (q20, .inr (5, [.ref a124])), (a124, .inl (tq.1, 6, .inl (fun _ => 0))), (q31, .inr (5, [.null]))] := hD
  refine W.widen (k := 5) (n := 45) (Nat.le_of_ble_eq_true rfl) (Nat.le_of_ble_eq_true rfl) ?_
  refine lv_dup hx hb dX2_init_34 rfl ?_
  refine call_c (wr := [(x0, .inr (2, [.ref q6, .ref q14, .ref q20, .null, .null, .int 0])), (q6, .inl (tq.1, 5, .inl (fun _ => 0))), (q14, .inl (tq.1, 32, .inl (fun _ => 0))), (q20, .inr (5, [.ref a124])), (a124, .inl (tq.1, 6, .inl (fun _ => 0)))]) (va_runIN (As := []) (rest := [.ref q31, .ref x0]) ⟨hx, hb, hml, hown, hts⟩ (kX5_init ln dg tq (x0 := q31) H.size) ⟨va_cnB 0 hts gX2_init_X5_init_n20 rfl rfl rfl hN.2.2.2.2.2.2.2.2.1 iz5 hdX5_init.2 ⟨Nat.le_of_ble_eq_true rfl, Nat.le_of_ble_eq_true rfl⟩, rfl, imX5_init⟩ (preIB hK hN hP hD [5] rfl rfl rfl q31 []) rfl rfl hl.1 rfl (lv_room (Nat.le_of_ble_eq_true rfl)) dX2_init_35 ⟨Nat.le_of_ble_eq_true rfl, Nat.le_of_ble_eq_true rfl⟩) hP hD hS hA [5] [0, 1, 2, 3, 4] rfl rfl (by decide) (by decide) (fun u35 H locs hw35 hP hD hS => ?_)
  obtain ⟨a135, rfl⟩ : ∃ z, z = u35 := ⟨_, rfl⟩
  have hP : va_P dg vwCl [(x0, .inr (2, [.ref q6, .ref q14, .ref q20, .null, .null, .int 0])), (q6, .inl (tq.1, 5, .inl (fun _ => 0))), (q14, .inl (tq.1, 32, .inl (fun _ => 0))), (q20, .inr (5, [.ref a124])), (a124, .inl (tq.1, 6, .inl (fun _ => 0))), (q31, .inr (5, [.ref a135])), (a135, .inl (tq.1, 6, .inl (fun _ => 0)))] H := hP
  have hD : va_D AA [(x0, .inr (2, [.ref q6, .ref q14, .ref q20, .null, .null, .int 0])), (q6, .inl (tq.1, 5, .inl (fun _ => 0))), (q14, .inl (tq.1, 32, .inl (fun _ => 0))), (q20, .inr (5, [.ref a124])), (a124, .inl (tq.1, 6, .inl (fun _ => 0))), (q31, .inr (5, [.ref a135])), (a135, .inl (tq.1, 6, .inl (fun _ => 0)))] := hD
  refine W.widen (k := 6) (n := 51) (Nat.le_of_ble_eq_true rfl) (Nat.le_of_ble_eq_true rfl) ?_
  refine va_putF (D := dg) (ci := 2) (v := .ref q31) (ty := (.object "OrphanChain$Purse")) (C := RX2) (T := TX2) (N := 6) hx hb hts in2 tyX2 tyX2_ok nmX2 hown hK hP hD hS 0 rfl rfl 3 (by decide) f25 (fun _ h9 => h9) rfl hin rfl (by decide +kernel) rfl rfl (Nat.le_of_ble_eq_true rfl) dX2_init_38 (fun H locs hP hD hS => ?_)
  have hP : va_P dg vwCl [(x0, .inr (2, [.ref q6, .ref q14, .ref q20, .ref q31, .null, .int 0])), (q6, .inl (tq.1, 5, .inl (fun _ => 0))), (q14, .inl (tq.1, 32, .inl (fun _ => 0))), (q20, .inr (5, [.ref a124])), (a124, .inl (tq.1, 6, .inl (fun _ => 0))), (q31, .inr (5, [.ref a135])), (a135, .inl (tq.1, 6, .inl (fun _ => 0)))] H := hP
  have hD : va_D AA [(x0, .inr (2, [.ref q6, .ref q14, .ref q20, .ref q31, .null, .int 0])), (q6, .inl (tq.1, 5, .inl (fun _ => 0))), (q14, .inl (tq.1, 32, .inl (fun _ => 0))), (q20, .inr (5, [.ref a124])), (a124, .inl (tq.1, 6, .inl (fun _ => 0))), (q31, .inr (5, [.ref a135])), (a135, .inl (tq.1, 6, .inl (fun _ => 0)))] := hD
  refine lv_aload_n hx hb dX2_init_41 rfl (lv_at hl 0 rfl) ?_
  refine va_new (ci := 3) (fs := [.null, .int 0]) (C := RX3) (T := TX3) (N := 2) hx hb hts in3 tyX3 tyX3_ok hown cl28 is3 iz3 hK hP hD hS hA rfl (fun j hj => by rcases (show j = 0 ∨ j = 1 by omega) with rfl | rfl <;> rfl) (Nat.le_of_ble_eq_true rfl) (Nat.le_of_ble_eq_true rfl) dX2_init_42 (fun q42 H hP hD hS => ?_)
  have hP : va_P dg vwCl [(x0, .inr (2, [.ref q6, .ref q14, .ref q20, .ref q31, .null, .int 0])), (q6, .inl (tq.1, 5, .inl (fun _ => 0))), (q14, .inl (tq.1, 32, .inl (fun _ => 0))), (q20, .inr (5, [.ref a124])), (a124, .inl (tq.1, 6, .inl (fun _ => 0))), (q31, .inr (5, [.ref a135])), (a135, .inl (tq.1, 6, .inl (fun _ => 0))), (q42, .inr (3, [.null, .int 0]))] H := hP
  have hD : va_D AA [(x0, .inr (2, [.ref q6, .ref q14, .ref q20, .ref q31, .null, .int 0])), (q6, .inl (tq.1, 5, .inl (fun _ => 0))), (q14, .inl (tq.1, 32, .inl (fun _ => 0))), (q20, .inr (5, [.ref a124])), (a124, .inl (tq.1, 6, .inl (fun _ => 0))), (q31, .inr (5, [.ref a135])), (a135, .inl (tq.1, 6, .inl (fun _ => 0))), (q42, .inr (3, [.null, .int 0]))] := hD
  refine W.widen (k := 7) (n := 53) (Nat.le_of_ble_eq_true rfl) (Nat.le_of_ble_eq_true rfl) ?_
  refine lv_dup hx hb dX2_init_45 rfl ?_
  refine call_c (wr := [(x0, .inr (2, [.ref q6, .ref q14, .ref q20, .ref q31, .null, .int 0])), (q6, .inl (tq.1, 5, .inl (fun _ => 0))), (q14, .inl (tq.1, 32, .inl (fun _ => 0))), (q20, .inr (5, [.ref a124])), (a124, .inl (tq.1, 6, .inl (fun _ => 0))), (q31, .inr (5, [.ref a135])), (a135, .inl (tq.1, 6, .inl (fun _ => 0)))]) (va_runIN (As := []) (rest := [.ref q42, .ref x0]) ⟨hx, hb, hml, hown, hts⟩ (kX3_init ln dg tq (x0 := q42) H.size) ⟨va_cnB 0 hts gX2_init_X3_init_n30 rfl rfl rfl hN.2.2.2.2.2.2.2.2.2.1 iz3 hdX3_init.2 ⟨Nat.le_of_ble_eq_true rfl, Nat.le_of_ble_eq_true rfl⟩, rfl, imX3_init⟩ (preIB hK hN hP hD [7] rfl rfl rfl q42 []) rfl rfl hl.1 rfl (lv_room (Nat.le_of_ble_eq_true rfl)) dX2_init_46 ⟨Nat.le_of_ble_eq_true rfl, Nat.le_of_ble_eq_true rfl⟩) hP hD hS hA [7] [0, 1, 2, 3, 4, 5, 6] rfl rfl (by decide) (by decide) (fun u46 H locs hw46 hP hD hS => ?_)
  obtain ⟨a146, rfl⟩ : ∃ z, z = u46 := ⟨_, rfl⟩
  have hP : va_P dg vwCl [(x0, .inr (2, [.ref q6, .ref q14, .ref q20, .ref q31, .null, .int 0])), (q6, .inl (tq.1, 5, .inl (fun _ => 0))), (q14, .inl (tq.1, 32, .inl (fun _ => 0))), (q20, .inr (5, [.ref a124])), (a124, .inl (tq.1, 6, .inl (fun _ => 0))), (q31, .inr (5, [.ref a135])), (a135, .inl (tq.1, 6, .inl (fun _ => 0))), (q42, .inr (3, [.ref a146, .int (nI 0)])), (a146, .inl (tq.1, 60, .inl (fun _ => 0)))] H := hP
  have hD : va_D AA [(x0, .inr (2, [.ref q6, .ref q14, .ref q20, .ref q31, .null, .int 0])), (q6, .inl (tq.1, 5, .inl (fun _ => 0))), (q14, .inl (tq.1, 32, .inl (fun _ => 0))), (q20, .inr (5, [.ref a124])), (a124, .inl (tq.1, 6, .inl (fun _ => 0))), (q31, .inr (5, [.ref a135])), (a135, .inl (tq.1, 6, .inl (fun _ => 0))), (q42, .inr (3, [.ref a146, .int (nI 0)])), (a146, .inl (tq.1, 60, .inl (fun _ => 0)))] := hD
  refine W.widen (k := 8) (n := 113) (Nat.le_of_ble_eq_true rfl) (Nat.le_of_ble_eq_true rfl) ?_
  refine va_putF (D := dg) (ci := 2) (v := .ref q42) (ty := (.object "OrphanChain$Path")) (C := RX2) (T := TX2) (N := 6) hx hb hts in2 tyX2 tyX2_ok nmX2 hown hK hP hD hS 0 rfl rfl 4 (by decide) f31 (fun _ h9 => h9) rfl hin rfl (by decide +kernel) rfl rfl (Nat.le_of_ble_eq_true rfl) dX2_init_49 (fun H locs hP hD hS => ?_)
  have hP : va_P dg vwCl [(x0, .inr (2, [.ref q6, .ref q14, .ref q20, .ref q31, .ref q42, .int 0])), (q6, .inl (tq.1, 5, .inl (fun _ => 0))), (q14, .inl (tq.1, 32, .inl (fun _ => 0))), (q20, .inr (5, [.ref a124])), (a124, .inl (tq.1, 6, .inl (fun _ => 0))), (q31, .inr (5, [.ref a135])), (a135, .inl (tq.1, 6, .inl (fun _ => 0))), (q42, .inr (3, [.ref a146, .int (nI 0)])), (a146, .inl (tq.1, 60, .inl (fun _ => 0)))] H := hP
  have hD : va_D AA [(x0, .inr (2, [.ref q6, .ref q14, .ref q20, .ref q31, .ref q42, .int 0])), (q6, .inl (tq.1, 5, .inl (fun _ => 0))), (q14, .inl (tq.1, 32, .inl (fun _ => 0))), (q20, .inr (5, [.ref a124])), (a124, .inl (tq.1, 6, .inl (fun _ => 0))), (q31, .inr (5, [.ref a135])), (a135, .inl (tq.1, 6, .inl (fun _ => 0))), (q42, .inr (3, [.ref a146, .int (nI 0)])), (a146, .inl (tq.1, 60, .inl (fun _ => 0)))] := hD
  refine lv_aload_n hx hb dX2_init_52 rfl (lv_at hl 0 rfl) ?_
  refine lv_iconst (v := (nI 0)) hx hb dX2_init_53 (by decide) ?_
  refine va_put (D := dg) (ci := 2) (v := .int (nI 0)) (ty := .int) (C := RX2) (T := TX2) (N := 6) hx hb hts in2 tyX2 tyX2_ok nmX2 hown hK hP hD hS 0 rfl rfl 5 (by decide) f35 (fun _ h9 => h9) rfl (by decide +kernel) rfl rfl (Nat.le_of_ble_eq_true rfl) dX2_init_54 (fun H locs hP hD hS => ?_)
  have hP : va_P dg vwCl [(x0, .inr (2, [.ref q6, .ref q14, .ref q20, .ref q31, .ref q42, .int (nI 0)])), (q6, .inl (tq.1, 5, .inl (fun _ => 0))), (q14, .inl (tq.1, 32, .inl (fun _ => 0))), (q20, .inr (5, [.ref a124])), (a124, .inl (tq.1, 6, .inl (fun _ => 0))), (q31, .inr (5, [.ref a135])), (a135, .inl (tq.1, 6, .inl (fun _ => 0))), (q42, .inr (3, [.ref a146, .int (nI 0)])), (a146, .inl (tq.1, 60, .inl (fun _ => 0)))] H := hP
  have hD : va_D AA [(x0, .inr (2, [.ref q6, .ref q14, .ref q20, .ref q31, .ref q42, .int (nI 0)])), (q6, .inl (tq.1, 5, .inl (fun _ => 0))), (q14, .inl (tq.1, 32, .inl (fun _ => 0))), (q20, .inr (5, [.ref a124])), (a124, .inl (tq.1, 6, .inl (fun _ => 0))), (q31, .inr (5, [.ref a135])), (a135, .inl (tq.1, 6, .inl (fun _ => 0))), (q42, .inr (3, [.ref a146, .int (nI 0)])), (a146, .inl (tq.1, 60, .inl (fun _ => 0)))] := hD
  exact hret (q6, q14, q20, a124, q31, a135, q42, a146) H locs _ ls (trivial) (hP.sub [0, 1, 2, 3, 4, 5, 6, 7, 8] rfl) (hD.sub [0, 1, 2, 3, 4, 5, 6, 7, 8] (by decide) rfl) hS dX2_init_57
theorem hdX7_init : yX7_init.cls = RX7 ∧ yX7_init.cls ≠ "java/lang/invoke/MethodHandle" ∧ yX7_init.cls ≠ "java/lang/invoke/VarHandle" ∧ (parseMethodDescriptor yX7_init.desc).map (fun d => d.parameters.length) = some 0 := by decide +kernel
set_option maxHeartbeats 4000000 in
set_option maxRecDepth 100000 in
theorem kX7_init (ln : Launch) (dg : va_G) (tq : ClassId × ClassId) (x0 : Nat) : MC ln yX7_init wsX7_init (rmc 3 21 9234 61) dg tq [.ref x0] [(x0, .inr (7, [.null, .null, .null, .null, .null, .null, .null]))] (fun (u : Nat × Nat × Nat × Nat × Nat × Nat × Nat × Nat × Nat × Nat × Nat × Nat × Nat × Nat × Nat × Nat × Nat × Nat × Nat × Nat × Nat) => True) (fun u => [(x0, .inr (7, [.ref u.1, .ref u.2.2.1, .ref u.2.2.2.2.1, .ref u.2.2.2.2.2.2.1, .ref u.2.2.2.2.2.2.2.2.1, .ref u.2.2.2.2.2.2.2.2.2.2.2.2.2.2.2.2.2.1, .ref u.2.2.2.2.2.2.2.2.2.2.2.2.2.2.2.2.2.2.2.1])), (u.1, .inr (1, [.ref u.2.1])), (u.2.1, .inl (tq.1, 1473, .inl led0)), (u.2.2.1, .inr (0, [.ref u.2.2.2.1, .int (nI 0), .int (nI 0)])), (u.2.2.2.1, .inl (tq.1, 7365, .inl (fun _ => 0))), (u.2.2.2.2.1, .inr (6, [.ref u.2.2.2.2.2.1, .int (nI 0)])), (u.2.2.2.2.2.1, .inl (tq.1, 100, .inl (fun _ => 0))), (u.2.2.2.2.2.2.1, .inr (4, [.ref u.2.2.2.2.2.2.2.1, .int (nI 0)])), (u.2.2.2.2.2.2.2.1, .inl (tq.1, 100, .inl (fun _ => 0))), (u.2.2.2.2.2.2.2.2.1, .inr (2, [.ref u.2.2.2.2.2.2.2.2.2.1, .ref u.2.2.2.2.2.2.2.2.2.2.1, .ref u.2.2.2.2.2.2.2.2.2.2.2.1, .ref u.2.2.2.2.2.2.2.2.2.2.2.2.2.1, .ref u.2.2.2.2.2.2.2.2.2.2.2.2.2.2.2.1, .int (nI 0)])), (u.2.2.2.2.2.2.2.2.2.1, .inl (tq.1, 5, .inl (fun _ => 0))), (u.2.2.2.2.2.2.2.2.2.2.1, .inl (tq.1, 32, .inl (fun _ => 0))), (u.2.2.2.2.2.2.2.2.2.2.2.1, .inr (5, [.ref u.2.2.2.2.2.2.2.2.2.2.2.2.1])), (u.2.2.2.2.2.2.2.2.2.2.2.2.1, .inl (tq.1, 6, .inl (fun _ => 0))), (u.2.2.2.2.2.2.2.2.2.2.2.2.2.1, .inr (5, [.ref u.2.2.2.2.2.2.2.2.2.2.2.2.2.2.1])), (u.2.2.2.2.2.2.2.2.2.2.2.2.2.2.1, .inl (tq.1, 6, .inl (fun _ => 0))), (u.2.2.2.2.2.2.2.2.2.2.2.2.2.2.2.1, .inr (3, [.ref u.2.2.2.2.2.2.2.2.2.2.2.2.2.2.2.2.1, .int (nI 0)])), (u.2.2.2.2.2.2.2.2.2.2.2.2.2.2.2.2.1, .inl (tq.1, 60, .inl (fun _ => 0))), (u.2.2.2.2.2.2.2.2.2.2.2.2.2.2.2.2.2.1, .inr (5, [.ref u.2.2.2.2.2.2.2.2.2.2.2.2.2.2.2.2.2.2.1])), (u.2.2.2.2.2.2.2.2.2.2.2.2.2.2.2.2.2.2.1, .inl (tq.1, 6, .inl (fun _ => 0))), (u.2.2.2.2.2.2.2.2.2.2.2.2.2.2.2.2.2.2.2.1, .inr (3, [.ref u.2.2.2.2.2.2.2.2.2.2.2.2.2.2.2.2.2.2.2.2, .int (nI 0)])), (u.2.2.2.2.2.2.2.2.2.2.2.2.2.2.2.2.2.2.2.2, .inl (tq.1, 60, .inl (fun _ => 0)))]) 21 9234 := by
  refine MC.enter cX7_init 1 (by decide) rfl rfl (Nat.le_of_ble_eq_true rfl) ?_
  intro pP eE sS mM aA bB mT cC QQ AA hA hAT hin hret H locs hP hD hS ls hl
  obtain ⟨hx, hb, hml, hown, hts, hK, hN⟩ := hAT
  have hin : mT.name = "<init>" := hin
  have hown : sS.vm.findClass RX7 = some mM.cls := hown
  have hl : lv_has ls 1 [(0, .ref x0)] := hl
  have in1 : ∀ w ∈ u_ws RX1 TX1 1, w ∈ wsX7_init := (fun _ h9 => List.mem_cons_of_mem _ (List.mem_append_left _ (List.mem_append_left _ (List.mem_append_left _ (List.mem_append_left _ (List.mem_append_left _ (List.mem_append_left _ (List.mem_append_left _ (List.mem_append_right _ h9)))))))))
  have in7 : ∀ w ∈ u_ws RX7 TX7 7, w ∈ wsX7_init := (fun _ h9 => List.mem_cons_of_mem _ (List.mem_append_left _ (List.mem_append_left _ (List.mem_append_left _ (List.mem_append_left _ (List.mem_append_left _ (List.mem_append_left _ (List.mem_append_right _ h9))))))))
  have in0 : ∀ w ∈ u_ws RX0 TX0 3, w ∈ wsX7_init := (fun _ h9 => List.mem_cons_of_mem _ (List.mem_append_left _ (List.mem_append_left _ (List.mem_append_left _ (List.mem_append_left _ (List.mem_append_left _ (List.mem_append_right _ h9)))))))
  have in6 : ∀ w ∈ u_ws RX6 TX6 2, w ∈ wsX7_init := (fun _ h9 => List.mem_cons_of_mem _ (List.mem_append_left _ (List.mem_append_left _ (List.mem_append_left _ (List.mem_append_left _ (List.mem_append_right _ h9))))))
  have in4 : ∀ w ∈ u_ws RX4 TX4 2, w ∈ wsX7_init := (fun _ h9 => List.mem_cons_of_mem _ (List.mem_append_left _ (List.mem_append_left _ (List.mem_append_left _ (List.mem_append_right _ h9)))))
  have in2 : ∀ w ∈ u_ws RX2 TX2 6, w ∈ wsX7_init := (fun _ h9 => List.mem_cons_of_mem _ (List.mem_append_left _ (List.mem_append_left _ (List.mem_append_right _ h9))))
  have in5 : ∀ w ∈ u_ws RX5 TX5 1, w ∈ wsX7_init := (fun _ h9 => List.mem_cons_of_mem _ (List.mem_append_left _ (List.mem_append_right _ h9)))
  have in3 : ∀ w ∈ u_ws RX3 TX3 2, w ∈ wsX7_init := (fun _ h9 => List.mem_cons_of_mem _ (List.mem_append_right _ h9))
  have ol := hts (.methodLink RX7 3 objectInit) (List.mem_of_getElem? (i := 1) rfl)
  have oi := hts (.instanceMethod objectInit) (List.mem_of_getElem? (i := 2) rfl)
  have oc := hts (.code objectInit ⟨#[0xb1]⟩ 1 none) (List.mem_of_getElem? (i := 3) rfl)
  have cl9 := hts (.classLink RX7 9 RX1) (List.mem_of_getElem? (i := 4) rfl)
  have is1 := hts (.instantiable RX1 1) (List.mem_of_getElem? (i := 5) rfl)
  have iz1 := hts (.initialized RX1) (List.mem_of_getElem? (i := 6) rfl)
  have imX1_init := hts (.instanceMethod yX1_init) (List.mem_of_getElem? (i := 33) rfl)
  have k11 := hts (.methodLink RX7 11 yX1_init) (List.mem_of_getElem? (i := 32) rfl)
  have f12 := hts (.fieldLink RX7 12 "OrphanChain" "ledger" "LOrphanChain$Ledger;") (List.mem_of_getElem? (i := 7) rfl)
  have cl16 := hts (.classLink RX7 16 RX0) (List.mem_of_getElem? (i := 8) rfl)
  have is0 := hts (.instantiable RX0 3) (List.mem_of_getElem? (i := 9) rfl)
  have iz0 := hts (.initialized RX0) (List.mem_of_getElem? (i := 10) rfl)
  have imX0_init := hts (.instanceMethod yX0_init) (List.mem_of_getElem? (i := 47) rfl)
  have f19 := hts (.fieldLink RX7 19 "OrphanChain" "history" "LOrphanChain$History;") (List.mem_of_getElem? (i := 11) rfl)
  have cl23 := hts (.classLink RX7 23 RX6) (List.mem_of_getElem? (i := 12) rfl)
  have is6 := hts (.instantiable RX6 2) (List.mem_of_getElem? (i := 13) rfl)
  have iz6 := hts (.initialized RX6) (List.mem_of_getElem? (i := 14) rfl)
  have imX6_init := hts (.instanceMethod yX6_init) (List.mem_of_getElem? (i := 53) rfl)
  have f26 := hts (.fieldLink RX7 26 "OrphanChain" "text" "LOrphanChain$Text;") (List.mem_of_getElem? (i := 15) rfl)
  have cl30 := hts (.classLink RX7 30 RX4) (List.mem_of_getElem? (i := 16) rfl)
  have is4 := hts (.instantiable RX4 2) (List.mem_of_getElem? (i := 17) rfl)
  have iz4 := hts (.initialized RX4) (List.mem_of_getElem? (i := 18) rfl)
  have imX4_init := hts (.instanceMethod yX4_init) (List.mem_of_getElem? (i := 58) rfl)
  have f33 := hts (.fieldLink RX7 33 "OrphanChain" "proof" "LOrphanChain$Proof;") (List.mem_of_getElem? (i := 19) rfl)
  have cl37 := hts (.classLink RX7 37 RX2) (List.mem_of_getElem? (i := 20) rfl)
  have is2 := hts (.instantiable RX2 6) (List.mem_of_getElem? (i := 21) rfl)
  have iz2 := hts (.initialized RX2) (List.mem_of_getElem? (i := 22) rfl)
  have imX2_init := hts (.instanceMethod yX2_init) (List.mem_of_getElem? (i := 63) rfl)
  have f40 := hts (.fieldLink RX7 40 "OrphanChain" "adoptions" "LOrphanChain$Orders;") (List.mem_of_getElem? (i := 23) rfl)
  have cl44 := hts (.classLink RX7 44 RX5) (List.mem_of_getElem? (i := 24) rfl)
  have is5 := hts (.instantiable RX5 1) (List.mem_of_getElem? (i := 25) rfl)
  have iz5 := hts (.initialized RX5) (List.mem_of_getElem? (i := 26) rfl)
  have imX5_init := hts (.instanceMethod yX5_init) (List.mem_of_getElem? (i := 74) rfl)
  have f47 := hts (.fieldLink RX7 47 "OrphanChain" "purse" "LOrphanChain$Purse;") (List.mem_of_getElem? (i := 27) rfl)
  have cl51 := hts (.classLink RX7 51 RX3) (List.mem_of_getElem? (i := 28) rfl)
  have is3 := hts (.instantiable RX3 2) (List.mem_of_getElem? (i := 29) rfl)
  have iz3 := hts (.initialized RX3) (List.mem_of_getElem? (i := 30) rfl)
  have imX3_init := hts (.instanceMethod yX3_init) (List.mem_of_getElem? (i := 78) rfl)
  have f54 := hts (.fieldLink RX7 54 "OrphanChain" "path" "LOrphanChain$Path;") (List.mem_of_getElem? (i := 31) rfl)
  refine lv_aload_n hx hb dX7_init_0 rfl (lv_at hl 0 rfl) ?_
  refine W.objInit hx hb hown ol oi oc rfl (by rw [hml]; exact hl.1) rfl dX7_init_1 (Nat.le_of_ble_eq_true rfl) (Nat.le_of_ble_eq_true rfl) ?_
  refine W.eq (g2 := F0 mM 4 ls []) rfl ?_
  refine lv_aload_n hx hb dX7_init_4 rfl (lv_at hl 0 rfl) ?_
  refine va_new (ci := 1) (fs := [.null]) (C := RX1) (T := TX1) (N := 1) hx hb hts in1 tyX1 tyX1_ok hown cl9 is1 iz1 hK hP hD hS hA rfl (fun j hj => by rcases (show j = 0 by omega) with rfl <;> rfl) (Nat.le_of_ble_eq_true rfl) (Nat.le_of_ble_eq_true rfl) dX7_init_5 (fun q5 H hP hD hS => ?_)
  have hP : va_P dg vwCl [(x0, .inr (7, [.null, .null, .null, .null, .null, .null, .null])), (q5, .inr (1, [.null]))] H := hP
  have hD : va_D AA [(x0, .inr (7, [.null, .null, .null, .null, .null, .null, .null])), (q5, .inr (1, [.null]))] := hD
  refine W.widen (k := 1) (n := 1) (Nat.le_of_ble_eq_true rfl) (Nat.le_of_ble_eq_true rfl) ?_
  refine lv_dup hx hb dX7_init_8 rfl ?_
  refine call_c (wr := [(x0, .inr (7, [.null, .null, .null, .null, .null, .null, .null]))]) (va_runI (As := []) (rest := [.ref q5, .ref x0]) ⟨hx, hb, hml, hown, hts⟩ (kX1_init ln dg tq (x0 := q5) H.size) (cwI 0 hts gX7_init_X1_init rfl rfl rfl iz1 k11 imX1_init rfl hdX1_init.2 ⟨Nat.le_of_ble_eq_true rfl, Nat.le_of_ble_eq_true rfl⟩) (preIB hK hN hP hD [1] rfl rfl rfl q5 []) rfl rfl hl.1 rfl (lv_room (Nat.le_of_ble_eq_true rfl)) dX7_init_9 ⟨Nat.le_of_ble_eq_true rfl, Nat.le_of_ble_eq_true rfl⟩) hP hD hS hA [1] [0] rfl rfl (by decide) (by decide) (fun u9 H locs hw9 hP hD hS => ?_)
  obtain ⟨a19, rfl⟩ : ∃ z, z = u9 := ⟨_, rfl⟩
  have hP : va_P dg vwCl [(x0, .inr (7, [.null, .null, .null, .null, .null, .null, .null])), (q5, .inr (1, [.ref a19])), (a19, .inl (tq.1, 1473, .inl led0))] H := hP
  have hD : va_D AA [(x0, .inr (7, [.null, .null, .null, .null, .null, .null, .null])), (q5, .inr (1, [.ref a19])), (a19, .inl (tq.1, 1473, .inl led0))] := hD
  refine W.widen (k := 2) (n := 1474) (Nat.le_of_ble_eq_true rfl) (Nat.le_of_ble_eq_true rfl) ?_
  refine va_putF (D := dg) (ci := 7) (v := .ref q5) (ty := (.object "OrphanChain$Ledger")) (C := RX7) (T := TX7) (N := 7) hx hb hts in7 tyX7 tyX7_ok nmX7 hown hK hP hD hS 0 rfl rfl 0 (by decide) f12 (fun _ h9 => h9) rfl hin rfl (by decide +kernel) rfl rfl (Nat.le_of_ble_eq_true rfl) dX7_init_12 (fun H locs hP hD hS => ?_)
  have hP : va_P dg vwCl [(x0, .inr (7, [.ref q5, .null, .null, .null, .null, .null, .null])), (q5, .inr (1, [.ref a19])), (a19, .inl (tq.1, 1473, .inl led0))] H := hP
  have hD : va_D AA [(x0, .inr (7, [.ref q5, .null, .null, .null, .null, .null, .null])), (q5, .inr (1, [.ref a19])), (a19, .inl (tq.1, 1473, .inl led0))] := hD
  refine lv_aload_n hx hb dX7_init_15 rfl (lv_at hl 0 rfl) ?_
  refine va_new (ci := 0) (fs := [.null, .int 0, .int 0]) (C := RX0) (T := TX0) (N := 3) hx hb hts in0 tyX0 tyX0_ok hown cl16 is0 iz0 hK hP hD hS hA rfl (fun j hj => by rcases (show j = 0 ∨ j = 1 ∨ j = 2 by omega) with rfl | rfl | rfl <;> rfl) (Nat.le_of_ble_eq_true rfl) (Nat.le_of_ble_eq_true rfl) dX7_init_16 (fun q16 H hP hD hS => ?_)
  have hP : va_P dg vwCl [(x0, .inr (7, [.ref q5, .null, .null, .null, .null, .null, .null])), (q5, .inr (1, [.ref a19])), (a19, .inl (tq.1, 1473, .inl led0)), (q16, .inr (0, [.null, .int 0, .int 0]))] H := hP
  have hD : va_D AA [(x0, .inr (7, [.ref q5, .null, .null, .null, .null, .null, .null])), (q5, .inr (1, [.ref a19])), (a19, .inl (tq.1, 1473, .inl led0)), (q16, .inr (0, [.null, .int 0, .int 0]))] := hD
  refine W.widen (k := 3) (n := 1477) (Nat.le_of_ble_eq_true rfl) (Nat.le_of_ble_eq_true rfl) ?_
  refine lv_dup hx hb dX7_init_19 rfl ?_
  refine call_c (wr := [(x0, .inr (7, [.ref q5, .null, .null, .null, .null, .null, .null])), (q5, .inr (1, [.ref a19])), (a19, .inl (tq.1, 1473, .inl led0))]) (va_runIN (As := []) (rest := [.ref q16, .ref x0]) ⟨hx, hb, hml, hown, hts⟩ (kX0_init ln dg tq (x0 := q16) H.size) ⟨va_cnB 0 hts gX7_init_X0_init_n18 rfl rfl rfl hN.2.2.2.2.1 iz0 hdX0_init.2 ⟨Nat.le_of_ble_eq_true rfl, Nat.le_of_ble_eq_true rfl⟩, rfl, imX0_init⟩ (preIB hK hN hP hD [3] rfl rfl rfl q16 []) rfl rfl hl.1 rfl (lv_room (Nat.le_of_ble_eq_true rfl)) dX7_init_20 ⟨Nat.le_of_ble_eq_true rfl, Nat.le_of_ble_eq_true rfl⟩) hP hD hS hA [3] [0, 1, 2] rfl rfl (by decide) (by decide) (fun u20 H locs hw20 hP hD hS => ?_)
  obtain ⟨a120, rfl⟩ : ∃ z, z = u20 := ⟨_, rfl⟩
  have hP : va_P dg vwCl [(x0, .inr (7, [.ref q5, .null, .null, .null, .null, .null, .null])), (q5, .inr (1, [.ref a19])), (a19, .inl (tq.1, 1473, .inl led0)), (q16, .inr (0, [.ref a120, .int (nI 0), .int (nI 0)])), (a120, .inl (tq.1, 7365, .inl (fun _ => 0)))] H := hP
  have hD : va_D AA [(x0, .inr (7, [.ref q5, .null, .null, .null, .null, .null, .null])), (q5, .inr (1, [.ref a19])), (a19, .inl (tq.1, 1473, .inl led0)), (q16, .inr (0, [.ref a120, .int (nI 0), .int (nI 0)])), (a120, .inl (tq.1, 7365, .inl (fun _ => 0)))] := hD
  refine W.widen (k := 4) (n := 8842) (Nat.le_of_ble_eq_true rfl) (Nat.le_of_ble_eq_true rfl) ?_
  refine va_putF (D := dg) (ci := 7) (v := .ref q16) (ty := (.object "OrphanChain$History")) (C := RX7) (T := TX7) (N := 7) hx hb hts in7 tyX7 tyX7_ok nmX7 hown hK hP hD hS 0 rfl rfl 1 (by decide) f19 (fun _ h9 => h9) rfl hin rfl (by decide +kernel) rfl rfl (Nat.le_of_ble_eq_true rfl) dX7_init_23 (fun H locs hP hD hS => ?_)
  have hP : va_P dg vwCl [(x0, .inr (7, [.ref q5, .ref q16, .null, .null, .null, .null, .null])), (q5, .inr (1, [.ref a19])), (a19, .inl (tq.1, 1473, .inl led0)), (q16, .inr (0, [.ref a120, .int (nI 0), .int (nI 0)])), (a120, .inl (tq.1, 7365, .inl (fun _ => 0)))] H := hP
  have hD : va_D AA [(x0, .inr (7, [.ref q5, .ref q16, .null, .null, .null, .null, .null])), (q5, .inr (1, [.ref a19])), (a19, .inl (tq.1, 1473, .inl led0)), (q16, .inr (0, [.ref a120, .int (nI 0), .int (nI 0)])), (a120, .inl (tq.1, 7365, .inl (fun _ => 0)))] := hD
  refine lv_aload_n hx hb dX7_init_26 rfl (lv_at hl 0 rfl) ?_
  refine va_new (ci := 6) (fs := [.null, .int 0]) (C := RX6) (T := TX6) (N := 2) hx hb hts in6 tyX6 tyX6_ok hown cl23 is6 iz6 hK hP hD hS hA rfl (fun j hj => by rcases (show j = 0 ∨ j = 1 by omega) with rfl | rfl <;> rfl) (Nat.le_of_ble_eq_true rfl) (Nat.le_of_ble_eq_true rfl) dX7_init_27 (fun q27 H hP hD hS => ?_)
  have hP : va_P dg vwCl [(x0, .inr (7, [.ref q5, .ref q16, .null, .null, .null, .null, .null])), (q5, .inr (1, [.ref a19])), (a19, .inl (tq.1, 1473, .inl led0)), (q16, .inr (0, [.ref a120, .int (nI 0), .int (nI 0)])), (a120, .inl (tq.1, 7365, .inl (fun _ => 0))), (q27, .inr (6, [.null, .int 0]))] H := hP
  have hD : va_D AA [(x0, .inr (7, [.ref q5, .ref q16, .null, .null, .null, .null, .null])), (q5, .inr (1, [.ref a19])), (a19, .inl (tq.1, 1473, .inl led0)), (q16, .inr (0, [.ref a120, .int (nI 0), .int (nI 0)])), (a120, .inl (tq.1, 7365, .inl (fun _ => 0))), (q27, .inr (6, [.null, .int 0]))] := hD
  refine W.widen (k := 5) (n := 8844) (Nat.le_of_ble_eq_true rfl) (Nat.le_of_ble_eq_true rfl) ?_
  refine lv_dup hx hb dX7_init_30 rfl ?_
  refine call_c (wr := [(x0, .inr (7, [.ref q5, .ref q16, .null, .null, .null, .null, .null])), (q5, .inr (1, [.ref a19])), (a19, .inl (tq.1, 1473, .inl led0)), (q16, .inr (0, [.ref a120, .int (nI 0), .int (nI 0)])), (a120, .inl (tq.1, 7365, .inl (fun _ => 0)))]) (va_runIN (As := []) (rest := [.ref q27, .ref x0]) ⟨hx, hb, hml, hown, hts⟩ (kX6_init ln dg tq (x0 := q27) H.size) ⟨va_cnB 0 hts gX7_init_X6_init_n25 rfl rfl rfl hN.2.2.2.2.2.1 iz6 hdX6_init.2 ⟨Nat.le_of_ble_eq_true rfl, Nat.le_of_ble_eq_true rfl⟩, rfl, imX6_init⟩ (preIB hK hN hP hD [5] rfl rfl rfl q27 []) rfl rfl hl.1 rfl (lv_room (Nat.le_of_ble_eq_true rfl)) dX7_init_31 ⟨Nat.le_of_ble_eq_true rfl, Nat.le_of_ble_eq_true rfl⟩) hP hD hS hA [5] [0, 1, 2, 3, 4] rfl rfl (by decide) (by decide) (fun u31 H locs hw31 hP hD hS => ?_)
  obtain ⟨a131, rfl⟩ : ∃ z, z = u31 := ⟨_, rfl⟩
  have hP : va_P dg vwCl [(x0, .inr (7, [.ref q5, .ref q16, .null, .null, .null, .null, .null])), (q5, .inr (1, [.ref a19])), (a19, .inl (tq.1, 1473, .inl led0)), (q16, .inr (0, [.ref a120, .int (nI 0), .int (nI 0)])), (a120, .inl (tq.1, 7365, .inl (fun _ => 0))), (q27, .inr (6, [.ref a131, .int (nI 0)])), (a131, .inl (tq.1, 100, .inl (fun _ => 0)))] H := hP
  have hD : va_D AA [(x0, .inr (7, [.ref q5, .ref q16, .null, .null, .null, .null, .null])), (q5, .inr (1, [.ref a19])), (a19, .inl (tq.1, 1473, .inl led0)), (q16, .inr (0, [.ref a120, .int (nI 0), .int (nI 0)])), (a120, .inl (tq.1, 7365, .inl (fun _ => 0))), (q27, .inr (6, [.ref a131, .int (nI 0)])), (a131, .inl (tq.1, 100, .inl (fun _ => 0)))] := hD
  refine W.widen (k := 6) (n := 8944) (Nat.le_of_ble_eq_true rfl) (Nat.le_of_ble_eq_true rfl) ?_
  refine va_putF (D := dg) (ci := 7) (v := .ref q27) (ty := (.object "OrphanChain$Text")) (C := RX7) (T := TX7) (N := 7) hx hb hts in7 tyX7 tyX7_ok nmX7 hown hK hP hD hS 0 rfl rfl 2 (by decide) f26 (fun _ h9 => h9) rfl hin rfl (by decide +kernel) rfl rfl (Nat.le_of_ble_eq_true rfl) dX7_init_34 (fun H locs hP hD hS => ?_)
  have hP : va_P dg vwCl [(x0, .inr (7, [.ref q5, .ref q16, .ref q27, .null, .null, .null, .null])), (q5, .inr (1, [.ref a19])), (a19, .inl (tq.1, 1473, .inl led0)), (q16, .inr (0, [.ref a120, .int (nI 0), .int (nI 0)])), (a120, .inl (tq.1, 7365, .inl (fun _ => 0))), (q27, .inr (6, [.ref a131, .int (nI 0)])), (a131, .inl (tq.1, 100, .inl (fun _ => 0)))] H := hP
  have hD : va_D AA [(x0, .inr (7, [.ref q5, .ref q16, .ref q27, .null, .null, .null, .null])), (q5, .inr (1, [.ref a19])), (a19, .inl (tq.1, 1473, .inl led0)), (q16, .inr (0, [.ref a120, .int (nI 0), .int (nI 0)])), (a120, .inl (tq.1, 7365, .inl (fun _ => 0))), (q27, .inr (6, [.ref a131, .int (nI 0)])), (a131, .inl (tq.1, 100, .inl (fun _ => 0)))] := hD
  refine lv_aload_n hx hb dX7_init_37 rfl (lv_at hl 0 rfl) ?_
  refine va_new (ci := 4) (fs := [.null, .int 0]) (C := RX4) (T := TX4) (N := 2) hx hb hts in4 tyX4 tyX4_ok hown cl30 is4 iz4 hK hP hD hS hA rfl (fun j hj => by rcases (show j = 0 ∨ j = 1 by omega) with rfl | rfl <;> rfl) (Nat.le_of_ble_eq_true rfl) (Nat.le_of_ble_eq_true rfl) dX7_init_38 (fun q38 H hP hD hS => ?_)
  have hP : va_P dg vwCl [(x0, .inr (7, [.ref q5, .ref q16, .ref q27, .null, .null, .null, .null])), (q5, .inr (1, [.ref a19])), (a19, .inl (tq.1, 1473, .inl led0)), (q16, .inr (0, [.ref a120, .int (nI 0), .int (nI 0)])), (a120, .inl (tq.1, 7365, .inl (fun _ => 0))), (q27, .inr (6, [.ref a131, .int (nI 0)])), (a131, .inl (tq.1, 100, .inl (fun _ => 0))), (q38, .inr (4, [.null, .int 0]))] H := hP
  have hD : va_D AA [(x0, .inr (7, [.ref q5, .ref q16, .ref q27, .null, .null, .null, .null])), (q5, .inr (1, [.ref a19])), (a19, .inl (tq.1, 1473, .inl led0)), (q16, .inr (0, [.ref a120, .int (nI 0), .int (nI 0)])), (a120, .inl (tq.1, 7365, .inl (fun _ => 0))), (q27, .inr (6, [.ref a131, .int (nI 0)])), (a131, .inl (tq.1, 100, .inl (fun _ => 0))), (q38, .inr (4, [.null, .int 0]))] := hD
  refine W.widen (k := 7) (n := 8946) (Nat.le_of_ble_eq_true rfl) (Nat.le_of_ble_eq_true rfl) ?_
  refine lv_dup hx hb dX7_init_41 rfl ?_
  refine call_c (wr := [(x0, .inr (7, [.ref q5, .ref q16, .ref q27, .null, .null, .null, .null])), (q5, .inr (1, [.ref a19])), (a19, .inl (tq.1, 1473, .inl led0)), (q16, .inr (0, [.ref a120, .int (nI 0), .int (nI 0)])), (a120, .inl (tq.1, 7365, .inl (fun _ => 0))), (q27, .inr (6, [.ref a131, .int (nI 0)])), (a131, .inl (tq.1, 100, .inl (fun _ => 0)))]) (va_runIN (As := []) (rest := [.ref q38, .ref x0]) ⟨hx, hb, hml, hown, hts⟩ (kX4_init ln dg tq (x0 := q38) H.size) ⟨va_cnB 0 hts gX7_init_X4_init_n32 rfl rfl rfl hN.2.2.2.2.2.2.1 iz4 hdX4_init.2 ⟨Nat.le_of_ble_eq_true rfl, Nat.le_of_ble_eq_true rfl⟩, rfl, imX4_init⟩ (preIB hK hN hP hD [7] rfl rfl rfl q38 []) rfl rfl hl.1 rfl (lv_room (Nat.le_of_ble_eq_true rfl)) dX7_init_42 ⟨Nat.le_of_ble_eq_true rfl, Nat.le_of_ble_eq_true rfl⟩) hP hD hS hA [7] [0, 1, 2, 3, 4, 5, 6] rfl rfl (by decide) (by decide) (fun u42 H locs hw42 hP hD hS => ?_)
  obtain ⟨a142, rfl⟩ : ∃ z, z = u42 := ⟨_, rfl⟩
  have hP : va_P dg vwCl [(x0, .inr (7, [.ref q5, .ref q16, .ref q27, .null, .null, .null, .null])), (q5, .inr (1, [.ref a19])), (a19, .inl (tq.1, 1473, .inl led0)), (q16, .inr (0, [.ref a120, .int (nI 0), .int (nI 0)])), (a120, .inl (tq.1, 7365, .inl (fun _ => 0))), (q27, .inr (6, [.ref a131, .int (nI 0)])), (a131, .inl (tq.1, 100, .inl (fun _ => 0))), (q38, .inr (4, [.ref a142, .int (nI 0)])), (a142, .inl (tq.1, 100, .inl (fun _ => 0)))] H := hP
  have hD : va_D AA [(x0, .inr (7, [.ref q5, .ref q16, .ref q27, .null, .null, .null, .null])), (q5, .inr (1, [.ref a19])), (a19, .inl (tq.1, 1473, .inl led0)), (q16, .inr (0, [.ref a120, .int (nI 0), .int (nI 0)])), (a120, .inl (tq.1, 7365, .inl (fun _ => 0))), (q27, .inr (6, [.ref a131, .int (nI 0)])), (a131, .inl (tq.1, 100, .inl (fun _ => 0))), (q38, .inr (4, [.ref a142, .int (nI 0)])), (a142, .inl (tq.1, 100, .inl (fun _ => 0)))] := hD
  refine W.widen (k := 8) (n := 9046) (Nat.le_of_ble_eq_true rfl) (Nat.le_of_ble_eq_true rfl) ?_
  refine va_putF (D := dg) (ci := 7) (v := .ref q38) (ty := (.object "OrphanChain$Proof")) (C := RX7) (T := TX7) (N := 7) hx hb hts in7 tyX7 tyX7_ok nmX7 hown hK hP hD hS 0 rfl rfl 3 (by decide) f33 (fun _ h9 => h9) rfl hin rfl (by decide +kernel) rfl rfl (Nat.le_of_ble_eq_true rfl) dX7_init_45 (fun H locs hP hD hS => ?_)
  have hP : va_P dg vwCl [(x0, .inr (7, [.ref q5, .ref q16, .ref q27, .ref q38, .null, .null, .null])), (q5, .inr (1, [.ref a19])), (a19, .inl (tq.1, 1473, .inl led0)), (q16, .inr (0, [.ref a120, .int (nI 0), .int (nI 0)])), (a120, .inl (tq.1, 7365, .inl (fun _ => 0))), (q27, .inr (6, [.ref a131, .int (nI 0)])), (a131, .inl (tq.1, 100, .inl (fun _ => 0))), (q38, .inr (4, [.ref a142, .int (nI 0)])), (a142, .inl (tq.1, 100, .inl (fun _ => 0)))] H := hP
  have hD : va_D AA [(x0, .inr (7, [.ref q5, .ref q16, .ref q27, .ref q38, .null, .null, .null])), (q5, .inr (1, [.ref a19])), (a19, .inl (tq.1, 1473, .inl led0)), (q16, .inr (0, [.ref a120, .int (nI 0), .int (nI 0)])), (a120, .inl (tq.1, 7365, .inl (fun _ => 0))), (q27, .inr (6, [.ref a131, .int (nI 0)])), (a131, .inl (tq.1, 100, .inl (fun _ => 0))), (q38, .inr (4, [.ref a142, .int (nI 0)])), (a142, .inl (tq.1, 100, .inl (fun _ => 0)))] := hD
  refine lv_aload_n hx hb dX7_init_48 rfl (lv_at hl 0 rfl) ?_
  refine va_new (ci := 2) (fs := [.null, .null, .null, .null, .null, .int 0]) (C := RX2) (T := TX2) (N := 6) hx hb hts in2 tyX2 tyX2_ok hown cl37 is2 iz2 hK hP hD hS hA rfl (fun j hj => by rcases (show j = 0 ∨ j = 1 ∨ j = 2 ∨ j = 3 ∨ j = 4 ∨ j = 5 by omega) with rfl | rfl | rfl | rfl | rfl | rfl <;> rfl) (Nat.le_of_ble_eq_true rfl) (Nat.le_of_ble_eq_true rfl) dX7_init_49 (fun q49 H hP hD hS => ?_)
  have hP : va_P dg vwCl [(x0, .inr (7, [.ref q5, .ref q16, .ref q27, .ref q38, .null, .null, .null])), (q5, .inr (1, [.ref a19])), (a19, .inl (tq.1, 1473, .inl led0)), (q16, .inr (0, [.ref a120, .int (nI 0), .int (nI 0)])), (a120, .inl (tq.1, 7365, .inl (fun _ => 0))), (q27, .inr (6, [.ref a131, .int (nI 0)])), (a131, .inl (tq.1, 100, .inl (fun _ => 0))), (q38, .inr (4, [.ref a142, .int (nI 0)])), (a142, .inl (tq.1, 100, .inl (fun _ => 0))), (q49, .inr (2, [.null, .null, .null, .null, .null, .int 0]))] H := hP
  have hD : va_D AA [(x0, .inr (7, [.ref q5, .ref q16, .ref q27, .ref q38, .null, .null, .null])), (q5, .inr (1, [.ref a19])), (a19, .inl (tq.1, 1473, .inl led0)), (q16, .inr (0, [.ref a120, .int (nI 0), .int (nI 0)])), (a120, .inl (tq.1, 7365, .inl (fun _ => 0))), (q27, .inr (6, [.ref a131, .int (nI 0)])), (a131, .inl (tq.1, 100, .inl (fun _ => 0))), (q38, .inr (4, [.ref a142, .int (nI 0)])), (a142, .inl (tq.1, 100, .inl (fun _ => 0))), (q49, .inr (2, [.null, .null, .null, .null, .null, .int 0]))] := hD
  refine W.widen (k := 9) (n := 9052) (Nat.le_of_ble_eq_true rfl) (Nat.le_of_ble_eq_true rfl) ?_
  refine lv_dup hx hb dX7_init_52 rfl ?_
  refine call_c (wr := [(x0, .inr (7, [.ref q5, .ref q16, .ref q27, .ref q38, .null, .null, .null])), (q5, .inr (1, [.ref a19])), (a19, .inl (tq.1, 1473, .inl led0)), (q16, .inr (0, [.ref a120, .int (nI 0), .int (nI 0)])), (a120, .inl (tq.1, 7365, .inl (fun _ => 0))), (q27, .inr (6, [.ref a131, .int (nI 0)])), (a131, .inl (tq.1, 100, .inl (fun _ => 0))), (q38, .inr (4, [.ref a142, .int (nI 0)])), (a142, .inl (tq.1, 100, .inl (fun _ => 0)))]) (va_runIN (As := []) (rest := [.ref q49, .ref x0]) ⟨hx, hb, hml, hown, hts⟩ (kX2_init ln dg tq (x0 := q49) H.size) ⟨va_cnB 0 hts gX7_init_X2_init_n39 rfl rfl rfl hN.2.2.2.2.2.2.2.1 iz2 hdX2_init.2 ⟨Nat.le_of_ble_eq_true rfl, Nat.le_of_ble_eq_true rfl⟩, rfl, imX2_init⟩ (preIB hK hN hP hD [9] rfl rfl rfl q49 []) rfl rfl hl.1 rfl (lv_room (Nat.le_of_ble_eq_true rfl)) dX7_init_53 ⟨Nat.le_of_ble_eq_true rfl, Nat.le_of_ble_eq_true rfl⟩) hP hD hS hA [9] [0, 1, 2, 3, 4, 5, 6, 7, 8] rfl rfl (by decide) (by decide) (fun u53 H locs hw53 hP hD hS => ?_)
  obtain ⟨wt53, wy53, pb53, b153, pt53, t153, pp53, q153⟩ := u53
  have hP : va_P dg vwCl [(x0, .inr (7, [.ref q5, .ref q16, .ref q27, .ref q38, .null, .null, .null])), (q5, .inr (1, [.ref a19])), (a19, .inl (tq.1, 1473, .inl led0)), (q16, .inr (0, [.ref a120, .int (nI 0), .int (nI 0)])), (a120, .inl (tq.1, 7365, .inl (fun _ => 0))), (q27, .inr (6, [.ref a131, .int (nI 0)])), (a131, .inl (tq.1, 100, .inl (fun _ => 0))), (q38, .inr (4, [.ref a142, .int (nI 0)])), (a142, .inl (tq.1, 100, .inl (fun _ => 0))), (q49, .inr (2, [.ref wt53, .ref wy53, .ref pb53, .ref pt53, .ref pp53, .int (nI 0)])), (wt53, .inl (tq.1, 5, .inl (fun _ => 0))), (wy53, .inl (tq.1, 32, .inl (fun _ => 0))), (pb53, .inr (5, [.ref b153])), (b153, .inl (tq.1, 6, .inl (fun _ => 0))), (pt53, .inr (5, [.ref t153])), (t153, .inl (tq.1, 6, .inl (fun _ => 0))), (pp53, .inr (3, [.ref q153, .int (nI 0)])), (q153, .inl (tq.1, 60, .inl (fun _ => 0)))] H := hP
  have hD : va_D AA [(x0, .inr (7, [.ref q5, .ref q16, .ref q27, .ref q38, .null, .null, .null])), (q5, .inr (1, [.ref a19])), (a19, .inl (tq.1, 1473, .inl led0)), (q16, .inr (0, [.ref a120, .int (nI 0), .int (nI 0)])), (a120, .inl (tq.1, 7365, .inl (fun _ => 0))), (q27, .inr (6, [.ref a131, .int (nI 0)])), (a131, .inl (tq.1, 100, .inl (fun _ => 0))), (q38, .inr (4, [.ref a142, .int (nI 0)])), (a142, .inl (tq.1, 100, .inl (fun _ => 0))), (q49, .inr (2, [.ref wt53, .ref wy53, .ref pb53, .ref pt53, .ref pp53, .int (nI 0)])), (wt53, .inl (tq.1, 5, .inl (fun _ => 0))), (wy53, .inl (tq.1, 32, .inl (fun _ => 0))), (pb53, .inr (5, [.ref b153])), (b153, .inl (tq.1, 6, .inl (fun _ => 0))), (pt53, .inr (5, [.ref t153])), (t153, .inl (tq.1, 6, .inl (fun _ => 0))), (pp53, .inr (3, [.ref q153, .int (nI 0)])), (q153, .inl (tq.1, 60, .inl (fun _ => 0)))] := hD
  refine W.widen (k := 17) (n := 9165) (Nat.le_of_ble_eq_true rfl) (Nat.le_of_ble_eq_true rfl) ?_
  refine va_putF (D := dg) (ci := 7) (v := .ref q49) (ty := (.object "OrphanChain$Orders")) (C := RX7) (T := TX7) (N := 7) hx hb hts in7 tyX7 tyX7_ok nmX7 hown hK hP hD hS 0 rfl rfl 4 (by decide) f40 (fun _ h9 => h9) rfl hin rfl (by decide +kernel) rfl rfl (Nat.le_of_ble_eq_true rfl) dX7_init_56 (fun H locs hP hD hS => ?_)
  have hP : va_P dg vwCl [(x0, .inr (7, [.ref q5, .ref q16, .ref q27, .ref q38, .ref q49, .null, .null])), (q5, .inr (1, [.ref a19])), (a19, .inl (tq.1, 1473, .inl led0)), (q16, .inr (0, [.ref a120, .int (nI 0), .int (nI 0)])), (a120, .inl (tq.1, 7365, .inl (fun _ => 0))), (q27, .inr (6, [.ref a131, .int (nI 0)])), (a131, .inl (tq.1, 100, .inl (fun _ => 0))), (q38, .inr (4, [.ref a142, .int (nI 0)])), (a142, .inl (tq.1, 100, .inl (fun _ => 0))), (q49, .inr (2, [.ref wt53, .ref wy53, .ref pb53, .ref pt53, .ref pp53, .int (nI 0)])), (wt53, .inl (tq.1, 5, .inl (fun _ => 0))), (wy53, .inl (tq.1, 32, .inl (fun _ => 0))), (pb53, .inr (5, [.ref b153])), (b153, .inl (tq.1, 6, .inl (fun _ => 0))), (pt53, .inr (5, [.ref t153])), (t153, .inl (tq.1, 6, .inl (fun _ => 0))), (pp53, .inr (3, [.ref q153, .int (nI 0)])), (q153, .inl (tq.1, 60, .inl (fun _ => 0)))] H := hP
  have hD : va_D AA [(x0, .inr (7, [.ref q5, .ref q16, .ref q27, .ref q38, .ref q49, .null, .null])), (q5, .inr (1, [.ref a19])), (a19, .inl (tq.1, 1473, .inl led0)), (q16, .inr (0, [.ref a120, .int (nI 0), .int (nI 0)])), (a120, .inl (tq.1, 7365, .inl (fun _ => 0))), (q27, .inr (6, [.ref a131, .int (nI 0)])), (a131, .inl (tq.1, 100, .inl (fun _ => 0))), (q38, .inr (4, [.ref a142, .int (nI 0)])), (a142, .inl (tq.1, 100, .inl (fun _ => 0))), (q49, .inr (2, [.ref wt53, .ref wy53, .ref pb53, .ref pt53, .ref pp53, .int (nI 0)])), (wt53, .inl (tq.1, 5, .inl (fun _ => 0))), (wy53, .inl (tq.1, 32, .inl (fun _ => 0))), (pb53, .inr (5, [.ref b153])), (b153, .inl (tq.1, 6, .inl (fun _ => 0))), (pt53, .inr (5, [.ref t153])), (t153, .inl (tq.1, 6, .inl (fun _ => 0))), (pp53, .inr (3, [.ref q153, .int (nI 0)])), (q153, .inl (tq.1, 60, .inl (fun _ => 0)))] := hD
  refine lv_aload_n hx hb dX7_init_59 rfl (lv_at hl 0 rfl) ?_
  refine va_new (ci := 5) (fs := [.null]) (C := RX5) (T := TX5) (N := 1) hx hb hts in5 tyX5 tyX5_ok hown cl44 is5 iz5 hK hP hD hS hA rfl (fun j hj => by rcases (show j = 0 by omega) with rfl <;> rfl) (Nat.le_of_ble_eq_true rfl) (Nat.le_of_ble_eq_true rfl) dX7_init_60 (fun q60 H hP hD hS => ?_)
  have hP : va_P dg vwCl [(x0, .inr (7, [.ref q5, .ref q16, .ref q27, .ref q38, .ref q49, .null, .null])), (q5, .inr (1, [.ref a19])), (a19, .inl (tq.1, 1473, .inl led0)), (q16, .inr (0, [.ref a120, .int (nI 0), .int (nI 0)])), (a120, .inl (tq.1, 7365, .inl (fun _ => 0))), (q27, .inr (6, [.ref a131, .int (nI 0)])), (a131, .inl (tq.1, 100, .inl (fun _ => 0))), (q38, .inr (4, [.ref a142, .int (nI 0)])), (a142, .inl (tq.1, 100, .inl (fun _ => 0))), (q49, .inr (2, [.ref wt53, .ref wy53, .ref pb53, .ref pt53, .ref pp53, .int (nI 0)])), (wt53, .inl (tq.1, 5, .inl (fun _ => 0))), (wy53, .inl (tq.1, 32, .inl (fun _ => 0))), (pb53, .inr (5, [.ref b153])), (b153, .inl (tq.1, 6, .inl (fun _ => 0))), (pt53, .inr (5, [.ref t153])), (t153, .inl (tq.1, 6, .inl (fun _ => 0))), (pp53, .inr (3, [.ref q153, .int (nI 0)])), (q153, .inl (tq.1, 60, .inl (fun _ => 0))), (q60, .inr (5, [.null]))] H := hP
  have hD : va_D AA [(x0, .inr (7, [.ref q5, .ref q16, .ref q27, .ref q38, .ref q49, .null, .null])), (q5, .inr (1, [.ref a19])), (a19, .inl (tq.1, 1473, .inl led0)), (q16, .inr (0, [.ref a120, .int (nI 0), .int (nI 0)])), (a120, .inl (tq.1, 7365, .inl (fun _ => 0))), (q27, .inr (6, [.ref a131, .int (nI 0)])), (a131, .inl (tq.1, 100, .inl (fun _ => 0))), (q38, .inr (4, [.ref a142, .int (nI 0)])), (a142, .inl (tq.1, 100, .inl (fun _ => 0))), (q49, .inr (2, [.ref wt53, .ref wy53, .ref pb53, .ref pt53, .ref pp53, .int (nI 0)])), (wt53, .inl (tq.1, 5, .inl (fun _ => 0))), (wy53, .inl (tq.1, 32, .inl (fun _ => 0))), (pb53, .inr (5, [.ref b153])), (b153, .inl (tq.1, 6, .inl (fun _ => 0))), (pt53, .inr (5, [.ref t153])), (t153, .inl (tq.1, 6, .inl (fun _ => 0))), (pp53, .inr (3, [.ref q153, .int (nI 0)])), (q153, .inl (tq.1, 60, .inl (fun _ => 0))), (q60, .inr (5, [.null]))] := hD
  refine W.widen (k := 18) (n := 9166) (Nat.le_of_ble_eq_true rfl) (Nat.le_of_ble_eq_true rfl) ?_
  refine lv_dup hx hb dX7_init_63 rfl ?_
  refine call_c (wr := [(x0, .inr (7, [.ref q5, .ref q16, .ref q27, .ref q38, .ref q49, .null, .null])), (q5, .inr (1, [.ref a19])), (a19, .inl (tq.1, 1473, .inl led0)), (q16, .inr (0, [.ref a120, .int (nI 0), .int (nI 0)])), (a120, .inl (tq.1, 7365, .inl (fun _ => 0))), (q27, .inr (6, [.ref a131, .int (nI 0)])), (a131, .inl (tq.1, 100, .inl (fun _ => 0))), (q38, .inr (4, [.ref a142, .int (nI 0)])), (a142, .inl (tq.1, 100, .inl (fun _ => 0))), (q49, .inr (2, [.ref wt53, .ref wy53, .ref pb53, .ref pt53, .ref pp53, .int (nI 0)])), (wt53, .inl (tq.1, 5, .inl (fun _ => 0))), (wy53, .inl (tq.1, 32, .inl (fun _ => 0))), (pb53, .inr (5, [.ref b153])), (b153, .inl (tq.1, 6, .inl (fun _ => 0))), (pt53, .inr (5, [.ref t153])), (t153, .inl (tq.1, 6, .inl (fun _ => 0))), (pp53, .inr (3, [.ref q153, .int (nI 0)])), (q153, .inl (tq.1, 60, .inl (fun _ => 0)))]) (va_runIN (As := []) (rest := [.ref q60, .ref x0]) ⟨hx, hb, hml, hown, hts⟩ (kX5_init ln dg tq (x0 := q60) H.size) ⟨va_cnB 0 hts gX7_init_X5_init_n46 rfl rfl rfl hN.2.2.2.2.2.2.2.2.2.2.1 iz5 hdX5_init.2 ⟨Nat.le_of_ble_eq_true rfl, Nat.le_of_ble_eq_true rfl⟩, rfl, imX5_init⟩ (preIB hK hN hP hD [18] rfl rfl rfl q60 []) rfl rfl hl.1 rfl (lv_room (Nat.le_of_ble_eq_true rfl)) dX7_init_64 ⟨Nat.le_of_ble_eq_true rfl, Nat.le_of_ble_eq_true rfl⟩) hP hD hS hA [18] [0, 1, 2, 3, 4, 5, 6, 7, 8, 9, 10, 11, 12, 13, 14, 15, 16, 17] rfl rfl (by decide) (by decide) (fun u64 H locs hw64 hP hD hS => ?_)
  obtain ⟨a164, rfl⟩ : ∃ z, z = u64 := ⟨_, rfl⟩
  have hP : va_P dg vwCl [(x0, .inr (7, [.ref q5, .ref q16, .ref q27, .ref q38, .ref q49, .null, .null])), (q5, .inr (1, [.ref a19])), (a19, .inl (tq.1, 1473, .inl led0)), (q16, .inr (0, [.ref a120, .int (nI 0), .int (nI 0)])), (a120, .inl (tq.1, 7365, .inl (fun _ => 0))), (q27, .inr (6, [.ref a131, .int (nI 0)])), (a131, .inl (tq.1, 100, .inl (fun _ => 0))), (q38, .inr (4, [.ref a142, .int (nI 0)])), (a142, .inl (tq.1, 100, .inl (fun _ => 0))), (q49, .inr (2, [.ref wt53, .ref wy53, .ref pb53, .ref pt53, .ref pp53, .int (nI 0)])), (wt53, .inl (tq.1, 5, .inl (fun _ => 0))), (wy53, .inl (tq.1, 32, .inl (fun _ => 0))), (pb53, .inr (5, [.ref b153])), (b153, .inl (tq.1, 6, .inl (fun _ => 0))), (pt53, .inr (5, [.ref t153])), (t153, .inl (tq.1, 6, .inl (fun _ => 0))), (pp53, .inr (3, [.ref q153, .int (nI 0)])), (q153, .inl (tq.1, 60, .inl (fun _ => 0))), (q60, .inr (5, [.ref a164])), (a164, .inl (tq.1, 6, .inl (fun _ => 0)))] H := hP
  have hD : va_D AA [(x0, .inr (7, [.ref q5, .ref q16, .ref q27, .ref q38, .ref q49, .null, .null])), (q5, .inr (1, [.ref a19])), (a19, .inl (tq.1, 1473, .inl led0)), (q16, .inr (0, [.ref a120, .int (nI 0), .int (nI 0)])), (a120, .inl (tq.1, 7365, .inl (fun _ => 0))), (q27, .inr (6, [.ref a131, .int (nI 0)])), (a131, .inl (tq.1, 100, .inl (fun _ => 0))), (q38, .inr (4, [.ref a142, .int (nI 0)])), (a142, .inl (tq.1, 100, .inl (fun _ => 0))), (q49, .inr (2, [.ref wt53, .ref wy53, .ref pb53, .ref pt53, .ref pp53, .int (nI 0)])), (wt53, .inl (tq.1, 5, .inl (fun _ => 0))), (wy53, .inl (tq.1, 32, .inl (fun _ => 0))), (pb53, .inr (5, [.ref b153])), (b153, .inl (tq.1, 6, .inl (fun _ => 0))), (pt53, .inr (5, [.ref t153])), (t153, .inl (tq.1, 6, .inl (fun _ => 0))), (pp53, .inr (3, [.ref q153, .int (nI 0)])), (q153, .inl (tq.1, 60, .inl (fun _ => 0))), (q60, .inr (5, [.ref a164])), (a164, .inl (tq.1, 6, .inl (fun _ => 0)))] := hD
  refine W.widen (k := 19) (n := 9172) (Nat.le_of_ble_eq_true rfl) (Nat.le_of_ble_eq_true rfl) ?_
  refine va_putF (D := dg) (ci := 7) (v := .ref q60) (ty := (.object "OrphanChain$Purse")) (C := RX7) (T := TX7) (N := 7) hx hb hts in7 tyX7 tyX7_ok nmX7 hown hK hP hD hS 0 rfl rfl 5 (by decide) f47 (fun _ h9 => h9) rfl hin rfl (by decide +kernel) rfl rfl (Nat.le_of_ble_eq_true rfl) dX7_init_67 (fun H locs hP hD hS => ?_)
  have hP : va_P dg vwCl [(x0, .inr (7, [.ref q5, .ref q16, .ref q27, .ref q38, .ref q49, .ref q60, .null])), (q5, .inr (1, [.ref a19])), (a19, .inl (tq.1, 1473, .inl led0)), (q16, .inr (0, [.ref a120, .int (nI 0), .int (nI 0)])), (a120, .inl (tq.1, 7365, .inl (fun _ => 0))), (q27, .inr (6, [.ref a131, .int (nI 0)])), (a131, .inl (tq.1, 100, .inl (fun _ => 0))), (q38, .inr (4, [.ref a142, .int (nI 0)])), (a142, .inl (tq.1, 100, .inl (fun _ => 0))), (q49, .inr (2, [.ref wt53, .ref wy53, .ref pb53, .ref pt53, .ref pp53, .int (nI 0)])), (wt53, .inl (tq.1, 5, .inl (fun _ => 0))), (wy53, .inl (tq.1, 32, .inl (fun _ => 0))), (pb53, .inr (5, [.ref b153])), (b153, .inl (tq.1, 6, .inl (fun _ => 0))), (pt53, .inr (5, [.ref t153])), (t153, .inl (tq.1, 6, .inl (fun _ => 0))), (pp53, .inr (3, [.ref q153, .int (nI 0)])), (q153, .inl (tq.1, 60, .inl (fun _ => 0))), (q60, .inr (5, [.ref a164])), (a164, .inl (tq.1, 6, .inl (fun _ => 0)))] H := hP
  have hD : va_D AA [(x0, .inr (7, [.ref q5, .ref q16, .ref q27, .ref q38, .ref q49, .ref q60, .null])), (q5, .inr (1, [.ref a19])), (a19, .inl (tq.1, 1473, .inl led0)), (q16, .inr (0, [.ref a120, .int (nI 0), .int (nI 0)])), (a120, .inl (tq.1, 7365, .inl (fun _ => 0))), (q27, .inr (6, [.ref a131, .int (nI 0)])), (a131, .inl (tq.1, 100, .inl (fun _ => 0))), (q38, .inr (4, [.ref a142, .int (nI 0)])), (a142, .inl (tq.1, 100, .inl (fun _ => 0))), (q49, .inr (2, [.ref wt53, .ref wy53, .ref pb53, .ref pt53, .ref pp53, .int (nI 0)])), (wt53, .inl (tq.1, 5, .inl (fun _ => 0))), (wy53, .inl (tq.1, 32, .inl (fun _ => 0))), (pb53, .inr (5, [.ref b153])), (b153, .inl (tq.1, 6, .inl (fun _ => 0))), (pt53, .inr (5, [.ref t153])), (t153, .inl (tq.1, 6, .inl (fun _ => 0))), (pp53, .inr (3, [.ref q153, .int (nI 0)])), (q153, .inl (tq.1, 60, .inl (fun _ => 0))), (q60, .inr (5, [.ref a164])), (a164, .inl (tq.1, 6, .inl (fun _ => 0)))] := hD
  refine lv_aload_n hx hb dX7_init_70 rfl (lv_at hl 0 rfl) ?_
  refine va_new (ci := 3) (fs := [.null, .int 0]) (C := RX3) (T := TX3) (N := 2) hx hb hts in3 tyX3 tyX3_ok hown cl51 is3 iz3 hK hP hD hS hA rfl (fun j hj => by rcases (show j = 0 ∨ j = 1 by omega) with rfl | rfl <;> rfl) (Nat.le_of_ble_eq_true rfl) (Nat.le_of_ble_eq_true rfl) dX7_init_71 (fun q71 H hP hD hS => ?_)
  have hP : va_P dg vwCl [(x0, .inr (7, [.ref q5, .ref q16, .ref q27, .ref q38, .ref q49, .ref q60, .null])), (q5, .inr (1, [.ref a19])), (a19, .inl (tq.1, 1473, .inl led0)), (q16, .inr (0, [.ref a120, .int (nI 0), .int (nI 0)])), (a120, .inl (tq.1, 7365, .inl (fun _ => 0))), (q27, .inr (6, [.ref a131, .int (nI 0)])), (a131, .inl (tq.1, 100, .inl (fun _ => 0))), (q38, .inr (4, [.ref a142, .int (nI 0)])), (a142, .inl (tq.1, 100, .inl (fun _ => 0))), (q49, .inr (2, [.ref wt53, .ref wy53, .ref pb53, .ref pt53, .ref pp53, .int (nI 0)])), (wt53, .inl (tq.1, 5, .inl (fun _ => 0))), (wy53, .inl (tq.1, 32, .inl (fun _ => 0))), (pb53, .inr (5, [.ref b153])), (b153, .inl (tq.1, 6, .inl (fun _ => 0))), (pt53, .inr (5, [.ref t153])), (t153, .inl (tq.1, 6, .inl (fun _ => 0))), (pp53, .inr (3, [.ref q153, .int (nI 0)])), (q153, .inl (tq.1, 60, .inl (fun _ => 0))), (q60, .inr (5, [.ref a164])), (a164, .inl (tq.1, 6, .inl (fun _ => 0))), (q71, .inr (3, [.null, .int 0]))] H := hP
  have hD : va_D AA [(x0, .inr (7, [.ref q5, .ref q16, .ref q27, .ref q38, .ref q49, .ref q60, .null])), (q5, .inr (1, [.ref a19])), (a19, .inl (tq.1, 1473, .inl led0)), (q16, .inr (0, [.ref a120, .int (nI 0), .int (nI 0)])), (a120, .inl (tq.1, 7365, .inl (fun _ => 0))), (q27, .inr (6, [.ref a131, .int (nI 0)])), (a131, .inl (tq.1, 100, .inl (fun _ => 0))), (q38, .inr (4, [.ref a142, .int (nI 0)])), (a142, .inl (tq.1, 100, .inl (fun _ => 0))), (q49, .inr (2, [.ref wt53, .ref wy53, .ref pb53, .ref pt53, .ref pp53, .int (nI 0)])), (wt53, .inl (tq.1, 5, .inl (fun _ => 0))), (wy53, .inl (tq.1, 32, .inl (fun _ => 0))), (pb53, .inr (5, [.ref b153])), (b153, .inl (tq.1, 6, .inl (fun _ => 0))), (pt53, .inr (5, [.ref t153])), (t153, .inl (tq.1, 6, .inl (fun _ => 0))), (pp53, .inr (3, [.ref q153, .int (nI 0)])), (q153, .inl (tq.1, 60, .inl (fun _ => 0))), (q60, .inr (5, [.ref a164])), (a164, .inl (tq.1, 6, .inl (fun _ => 0))), (q71, .inr (3, [.null, .int 0]))] := hD
  refine W.widen (k := 20) (n := 9174) (Nat.le_of_ble_eq_true rfl) (Nat.le_of_ble_eq_true rfl) ?_
  refine lv_dup hx hb dX7_init_74 rfl ?_
  refine call_c (wr := [(x0, .inr (7, [.ref q5, .ref q16, .ref q27, .ref q38, .ref q49, .ref q60, .null])), (q5, .inr (1, [.ref a19])), (a19, .inl (tq.1, 1473, .inl led0)), (q16, .inr (0, [.ref a120, .int (nI 0), .int (nI 0)])), (a120, .inl (tq.1, 7365, .inl (fun _ => 0))), (q27, .inr (6, [.ref a131, .int (nI 0)])), (a131, .inl (tq.1, 100, .inl (fun _ => 0))), (q38, .inr (4, [.ref a142, .int (nI 0)])), (a142, .inl (tq.1, 100, .inl (fun _ => 0))), (q49, .inr (2, [.ref wt53, .ref wy53, .ref pb53, .ref pt53, .ref pp53, .int (nI 0)])), (wt53, .inl (tq.1, 5, .inl (fun _ => 0))), (wy53, .inl (tq.1, 32, .inl (fun _ => 0))), (pb53, .inr (5, [.ref b153])), (b153, .inl (tq.1, 6, .inl (fun _ => 0))), (pt53, .inr (5, [.ref t153])), (t153, .inl (tq.1, 6, .inl (fun _ => 0))), (pp53, .inr (3, [.ref q153, .int (nI 0)])), (q153, .inl (tq.1, 60, .inl (fun _ => 0))), (q60, .inr (5, [.ref a164])), (a164, .inl (tq.1, 6, .inl (fun _ => 0)))]) (va_runIN (As := []) (rest := [.ref q71, .ref x0]) ⟨hx, hb, hml, hown, hts⟩ (kX3_init ln dg tq (x0 := q71) H.size) ⟨va_cnB 0 hts gX7_init_X3_init_n53 rfl rfl rfl hN.2.2.2.2.2.2.2.2.2.2.2 iz3 hdX3_init.2 ⟨Nat.le_of_ble_eq_true rfl, Nat.le_of_ble_eq_true rfl⟩, rfl, imX3_init⟩ (preIB hK hN hP hD [20] rfl rfl rfl q71 []) rfl rfl hl.1 rfl (lv_room (Nat.le_of_ble_eq_true rfl)) dX7_init_75 ⟨Nat.le_of_ble_eq_true rfl, Nat.le_of_ble_eq_true rfl⟩) hP hD hS hA [20] [0, 1, 2, 3, 4, 5, 6, 7, 8, 9, 10, 11, 12, 13, 14, 15, 16, 17, 18, 19] rfl rfl (by decide) (by decide) (fun u75 H locs hw75 hP hD hS => ?_)
  obtain ⟨a175, rfl⟩ : ∃ z, z = u75 := ⟨_, rfl⟩
  have hP : va_P dg vwCl [(x0, .inr (7, [.ref q5, .ref q16, .ref q27, .ref q38, .ref q49, .ref q60, .null])), (q5, .inr (1, [.ref a19])), (a19, .inl (tq.1, 1473, .inl led0)), (q16, .inr (0, [.ref a120, .int (nI 0), .int (nI 0)])), (a120, .inl (tq.1, 7365, .inl (fun _ => 0))), (q27, .inr (6, [.ref a131, .int (nI 0)])), (a131, .inl (tq.1, 100, .inl (fun _ => 0))), (q38, .inr (4, [.ref a142, .int (nI 0)])), (a142, .inl (tq.1, 100, .inl (fun _ => 0))), (q49, .inr (2, [.ref wt53, .ref wy53, .ref pb53, .ref pt53, .ref pp53, .int (nI 0)])), (wt53, .inl (tq.1, 5, .inl (fun _ => 0))), (wy53, .inl (tq.1, 32, .inl (fun _ => 0))), (pb53, .inr (5, [.ref b153])), (b153, .inl (tq.1, 6, .inl (fun _ => 0))), (pt53, .inr (5, [.ref t153])), (t153, .inl (tq.1, 6, .inl (fun _ => 0))), (pp53, .inr (3, [.ref q153, .int (nI 0)])), (q153, .inl (tq.1, 60, .inl (fun _ => 0))), (q60, .inr (5, [.ref a164])), (a164, .inl (tq.1, 6, .inl (fun _ => 0))), (q71, .inr (3, [.ref a175, .int (nI 0)])), (a175, .inl (tq.1, 60, .inl (fun _ => 0)))] H := hP
  have hD : va_D AA [(x0, .inr (7, [.ref q5, .ref q16, .ref q27, .ref q38, .ref q49, .ref q60, .null])), (q5, .inr (1, [.ref a19])), (a19, .inl (tq.1, 1473, .inl led0)), (q16, .inr (0, [.ref a120, .int (nI 0), .int (nI 0)])), (a120, .inl (tq.1, 7365, .inl (fun _ => 0))), (q27, .inr (6, [.ref a131, .int (nI 0)])), (a131, .inl (tq.1, 100, .inl (fun _ => 0))), (q38, .inr (4, [.ref a142, .int (nI 0)])), (a142, .inl (tq.1, 100, .inl (fun _ => 0))), (q49, .inr (2, [.ref wt53, .ref wy53, .ref pb53, .ref pt53, .ref pp53, .int (nI 0)])), (wt53, .inl (tq.1, 5, .inl (fun _ => 0))), (wy53, .inl (tq.1, 32, .inl (fun _ => 0))), (pb53, .inr (5, [.ref b153])), (b153, .inl (tq.1, 6, .inl (fun _ => 0))), (pt53, .inr (5, [.ref t153])), (t153, .inl (tq.1, 6, .inl (fun _ => 0))), (pp53, .inr (3, [.ref q153, .int (nI 0)])), (q153, .inl (tq.1, 60, .inl (fun _ => 0))), (q60, .inr (5, [.ref a164])), (a164, .inl (tq.1, 6, .inl (fun _ => 0))), (q71, .inr (3, [.ref a175, .int (nI 0)])), (a175, .inl (tq.1, 60, .inl (fun _ => 0)))] := hD
  refine W.widen (k := 21) (n := 9234) (Nat.le_of_ble_eq_true rfl) (Nat.le_of_ble_eq_true rfl) ?_
  refine va_putF (D := dg) (ci := 7) (v := .ref q71) (ty := (.object "OrphanChain$Path")) (C := RX7) (T := TX7) (N := 7) hx hb hts in7 tyX7 tyX7_ok nmX7 hown hK hP hD hS 0 rfl rfl 6 (by decide) f54 (fun _ h9 => h9) rfl hin rfl (by decide +kernel) rfl rfl (Nat.le_of_ble_eq_true rfl) dX7_init_78 (fun H locs hP hD hS => ?_)
  have hP : va_P dg vwCl [(x0, .inr (7, [.ref q5, .ref q16, .ref q27, .ref q38, .ref q49, .ref q60, .ref q71])), (q5, .inr (1, [.ref a19])), (a19, .inl (tq.1, 1473, .inl led0)), (q16, .inr (0, [.ref a120, .int (nI 0), .int (nI 0)])), (a120, .inl (tq.1, 7365, .inl (fun _ => 0))), (q27, .inr (6, [.ref a131, .int (nI 0)])), (a131, .inl (tq.1, 100, .inl (fun _ => 0))), (q38, .inr (4, [.ref a142, .int (nI 0)])), (a142, .inl (tq.1, 100, .inl (fun _ => 0))), (q49, .inr (2, [.ref wt53, .ref wy53, .ref pb53, .ref pt53, .ref pp53, .int (nI 0)])), (wt53, .inl (tq.1, 5, .inl (fun _ => 0))), (wy53, .inl (tq.1, 32, .inl (fun _ => 0))), (pb53, .inr (5, [.ref b153])), (b153, .inl (tq.1, 6, .inl (fun _ => 0))), (pt53, .inr (5, [.ref t153])), (t153, .inl (tq.1, 6, .inl (fun _ => 0))), (pp53, .inr (3, [.ref q153, .int (nI 0)])), (q153, .inl (tq.1, 60, .inl (fun _ => 0))), (q60, .inr (5, [.ref a164])), (a164, .inl (tq.1, 6, .inl (fun _ => 0))), (q71, .inr (3, [.ref a175, .int (nI 0)])), (a175, .inl (tq.1, 60, .inl (fun _ => 0)))] H := hP
  have hD : va_D AA [(x0, .inr (7, [.ref q5, .ref q16, .ref q27, .ref q38, .ref q49, .ref q60, .ref q71])), (q5, .inr (1, [.ref a19])), (a19, .inl (tq.1, 1473, .inl led0)), (q16, .inr (0, [.ref a120, .int (nI 0), .int (nI 0)])), (a120, .inl (tq.1, 7365, .inl (fun _ => 0))), (q27, .inr (6, [.ref a131, .int (nI 0)])), (a131, .inl (tq.1, 100, .inl (fun _ => 0))), (q38, .inr (4, [.ref a142, .int (nI 0)])), (a142, .inl (tq.1, 100, .inl (fun _ => 0))), (q49, .inr (2, [.ref wt53, .ref wy53, .ref pb53, .ref pt53, .ref pp53, .int (nI 0)])), (wt53, .inl (tq.1, 5, .inl (fun _ => 0))), (wy53, .inl (tq.1, 32, .inl (fun _ => 0))), (pb53, .inr (5, [.ref b153])), (b153, .inl (tq.1, 6, .inl (fun _ => 0))), (pt53, .inr (5, [.ref t153])), (t153, .inl (tq.1, 6, .inl (fun _ => 0))), (pp53, .inr (3, [.ref q153, .int (nI 0)])), (q153, .inl (tq.1, 60, .inl (fun _ => 0))), (q60, .inr (5, [.ref a164])), (a164, .inl (tq.1, 6, .inl (fun _ => 0))), (q71, .inr (3, [.ref a175, .int (nI 0)])), (a175, .inl (tq.1, 60, .inl (fun _ => 0)))] := hD
  exact hret (q5, a19, q16, a120, q27, a131, q38, a142, q49, wt53, wy53, pb53, b153, pt53, t153, pp53, q153, q60, a164, q71, a175) H locs _ ls (trivial) (hP.sub [0, 1, 2, 3, 4, 5, 6, 7, 8, 9, 10, 11, 12, 13, 14, 15, 16, 17, 18, 19, 20, 21] rfl) (hD.sub [0, 1, 2, 3, 4, 5, 6, 7, 8, 9, 10, 11, 12, 13, 14, 15, 16, 17, 18, 19, 20, 21] (by decide) rfl) hS dX7_init_81
