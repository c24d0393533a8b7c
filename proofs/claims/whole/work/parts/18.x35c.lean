theorem hdX5_clear : yX5_clear.cls = RX5 ∧ yX5_clear.cls ≠ "java/lang/invoke/MethodHandle" ∧ yX5_clear.cls ≠ "java/lang/invoke/VarHandle" ∧ (parseMethodDescriptor yX5_clear.desc).map (fun d => d.parameters.length) = some 0 := by decide +kernel
set_option maxHeartbeats 4000000 in
set_option maxRecDepth 100000 in
theorem kX5_clear (ln : Launch) (dg : va_G) (tq : ClassId × ClassId) (u0 u1 : Nat) (f : Row) : MV ln yX5_clear wsX5_clear (rmm 1 23) dg tq [.ref u0] [(u0, .inr (5, [.ref u1])), (u1, .inl (tq.1, 6, .inl f))] (fun (u : Row) => SV u (fun _ => 0)) (fun u => [(u0, .inr (5, [.ref u1])), (u1, .inl (tq.1, 6, .inl u))]) := by
  refine MV.enter cX5_clear 1 (by decide) rfl rfl (Nat.le_of_ble_eq_true rfl) ?_
  intro pP eE sS mM aA bB mT cC QQ AA hA hAT hret H locs hP hD hS ls hl
  obtain ⟨hx, hb, hml, hown, hts, hK, hN⟩ := hAT
  have hown : sS.vm.findClass RX5 = some mM.cls := hown
  have hl : lv_has ls 1 [(0, .ref u0)] := hl
  have in5 : ∀ w ∈ u_ws RX5 TX5 1, w ∈ wsX5_clear := (fun _ h9 => List.mem_cons_of_mem _ (List.mem_append_right _ h9))
  have f9 := hts (.fieldLink RX5 9 "OrphanChain$Purse" "sums" "[I") (List.mem_of_getElem? (i := 1) rfl)
  refine lv_aload_n hx hb dX5_clear_0 rfl (lv_at hl 0 rfl) ?_
  refine va_get (D := dg) (ci := 5) (v := .ref u1) (C := RX5) (T := TX5) (N := 1) hx hb hts in5 hown hK hP 0 rfl rfl 0 (by decide) f9 (fun _ h9 => h9) rfl dX5_clear_1 ?_
  refine lv_iconst (v := (nI 0)) hx hb dX5_clear_4 (by decide) ?_
  refine call_v (wr := [(u0, .inr (5, [.ref u1]))]) (va_runS (As := [.ref u1, .int (nI 0)]) (rest := []) ⟨hx, hb, hml, hown, hts⟩ (kJ7_fill_53178 ln dg tq (a0 := u1) (n := 6) (f := f) (v := (nI 0)) (hn := (by omega)) H.size) (va_cwS 2 hts gX5_clear_J7_fill_53178 rfl rfl rfl hdJ7_fill_53178.2 ⟨Nat.le_of_ble_eq_true rfl, Nat.le_of_ble_eq_true rfl⟩) (preSB hK hN hP hD [1] rfl rfl rfl [.ref u1, .int (nI 0)]) rfl rfl hl.1 rfl (lv_room (Nat.le_of_ble_eq_true rfl)) dX5_clear_5 ⟨Nat.le_refl _, Nat.le_refl _⟩) hP hD hS hA [1] [0] rfl rfl (by decide) (by decide) (fun u5 H locs hw5 hP hD hS => ?_)
  obtain ⟨g5, rfl⟩ : ∃ z, z = u5 := ⟨_, rfl⟩
  have hP : va_P dg vwCl [(u0, .inr (5, [.ref u1])), (u1, .inl (tq.1, 6, .inl g5))] H := hP
  have hD : va_D AA [(u0, .inr (5, [.ref u1])), (u1, .inl (tq.1, 6, .inl g5))] := hD
  exact hret (g5) H locs _ ls (SV_0 hw5) (hP.sub [0, 1] rfl) (hD.sub [0, 1] (by decide) rfl) hS dX5_clear_8
theorem hdX5_copyFrom : yX5_copyFrom.cls = RX5 ∧ yX5_copyFrom.cls ≠ "java/lang/invoke/MethodHandle" ∧ yX5_copyFrom.cls ≠ "java/lang/invoke/VarHandle" ∧ (parseMethodDescriptor yX5_copyFrom.desc).map (fun d => d.parameters.length) = some 1 := by decide +kernel
set_option maxHeartbeats 4000000 in
set_option maxRecDepth 100000 in
theorem kX5_copyFrom (ln : Launch) (dg : va_G) (tq : ClassId × ClassId) (u0 u1 : Nat) (f : Row) (t0 t1 : Nat) (ft : Row) : MV ln yX5_copyFrom wsX5_copyFrom (rmm 1 26) dg tq [.ref u0, .ref t0] [(u0, .inr (5, [.ref u1])), (u1, .inl (tq.1, 6, .inl f)), (t0, .inr (5, [.ref t1])), (t1, .inl (tq.1, 6, .inl ft))] (fun (u : Row) => ∀ a, a < 6 → u a = ft a) (fun u => [(u0, .inr (5, [.ref u1])), (u1, .inl (tq.1, 6, .inl u)), (t0, .inr (5, [.ref t1])), (t1, .inl (tq.1, 6, .inl ft))]) := by
  refine MV.enter cX5_copyFrom 2 (by decide) rfl rfl (Nat.le_of_ble_eq_true rfl) ?_
  intro pP eE sS mM aA bB mT cC QQ AA hA hAT hret H locs hP hD hS ls hl
  obtain ⟨hx, hb, hml, hown, hts, hK, hN⟩ := hAT
  have hown : sS.vm.findClass RX5 = some mM.cls := hown
  have hl : lv_has ls 2 [(0, .ref u0), (1, .ref t0)] := hl
  have in5 : ∀ w ∈ u_ws RX5 TX5 1, w ∈ wsX5_copyFrom := (fun _ h9 => List.mem_cons_of_mem _ (List.mem_append_right _ h9))
  have f9 := hts (.fieldLink RX5 9 "OrphanChain$Purse" "sums" "[I") (List.mem_of_getElem? (i := 1) rfl)
  have k34 := hts (.methodLink RX5 34 arraycopyName) (List.mem_of_getElem? (i := 2) rfl)
  have an := hts (.native arraycopyName) (List.mem_of_getElem? (i := 3) rfl)
  have as := hts (.static arraycopyName) (List.mem_of_getElem? (i := 4) rfl)
  have ai := hts (.initialized "java/lang/System") (List.mem_of_getElem? (i := 5) rfl)
  refine lv_aload_n hx hb dX5_copyFrom_0 rfl (lv_at hl 1 rfl) ?_
  refine va_get (D := dg) (ci := 5) (v := .ref t1) (C := RX5) (T := TX5) (N := 1) hx hb hts in5 hown hK hP 2 rfl rfl 0 (by decide) f9 (fun _ h9 => h9) rfl dX5_copyFrom_1 ?_
  refine lv_iconst (v := (nI 0)) hx hb dX5_copyFrom_4 (by decide) ?_
  refine lv_aload_n hx hb dX5_copyFrom_5 rfl (lv_at hl 0 rfl) ?_
  refine va_get (D := dg) (ci := 5) (v := .ref u1) (C := RX5) (T := TX5) (N := 1) hx hb hts in5 hown hK hP 0 rfl rfl 0 (by decide) f9 (fun _ h9 => h9) rfl dX5_copyFrom_6 ?_
  refine lv_iconst (v := (nI 0)) hx hb dX5_copyFrom_9 (by decide) ?_
  refine lv_bipush (v := (nI 6)) hx hb dX5_copyFrom_10 (by decide) ?_
  refine r_copy_n hx hb (hml.trans hl.1.symm) hown k34 an as ai hK hP hD hS 3 1 rfl rfl (sp := 0) (dp := 0) (n := 6) (by omega) (by omega) (by omega) (by omega) (by omega) (Nat.le_of_ble_eq_true rfl) (Nat.le_of_ble_eq_true rfl) dX5_copyFrom_12 (fun H locs hP hD hS => ?_)
  have hP : va_P dg vwCl [(u0, .inr (5, [.ref u1])), (u1, .inl (tq.1, 6, .inl (va_cpy ft f 0 0 6))), (t0, .inr (5, [.ref t1])), (t1, .inl (tq.1, 6, .inl ft))] H := hP
  have hD : va_D AA [(u0, .inr (5, [.ref u1])), (u1, .inl (tq.1, 6, .inl (va_cpy ft f 0 0 6))), (t0, .inr (5, [.ref t1])), (t1, .inl (tq.1, 6, .inl ft))] := hD
  exact hret ((va_cpy ft f 0 0 6)) H locs _ ls (fun a ha => by rw [pk_cpy_in (by omega) (by omega)]; congr 1; omega) (hP.sub [0, 1, 2, 3] rfl) (hD.sub [0, 1, 2, 3] (by decide) rfl) hS dX5_copyFrom_15
theorem hdX5_sum : yX5_sum.cls = RX5 ∧ yX5_sum.cls ≠ "java/lang/invoke/MethodHandle" ∧ yX5_sum.cls ≠ "java/lang/invoke/VarHandle" ∧ (parseMethodDescriptor yX5_sum.desc).map (fun d => d.parameters.length) = some 1 := by decide +kernel
set_option maxHeartbeats 4000000 in
set_option maxRecDepth 100000 in
theorem kX5_sum (ln : Launch) (dg : va_G) (tq : ClassId × ClassId) (u0 u1 : Nat) (f : Row) (a : Nat) (ha : a < 6) : MR ln yX5_sum wsX5_sum (rmm 0 0) dg tq [.ref u0, .int (nI a)] [(u0, .inr (5, [.ref u1])), (u1, .inl (tq.1, 6, .inl f))] (fun r => r = (f a)) := by
  refine MR.enter cX5_sum 2 .int (by decide) rfl rfl (Nat.le_of_ble_eq_true rfl) ?_
  intro pP eE sS mM aA bB mT cC QQ AA hA hAT hret H locs hP hS ls hl
  obtain ⟨hx, hb, hml, hown, hts, hK, hN⟩ := hAT
  have hown : sS.vm.findClass RX5 = some mM.cls := hown
  have hl : lv_has ls 2 [(0, .ref u0), (1, .int (nI a))] := hl
  have in5 : ∀ w ∈ u_ws RX5 TX5 1, w ∈ wsX5_sum := (fun _ h9 => List.mem_cons_of_mem _ (List.mem_append_right _ h9))
  have f9 := hts (.fieldLink RX5 9 "OrphanChain$Purse" "sums" "[I") (List.mem_of_getElem? (i := 1) rfl)
  refine lv_iload_n hx hb dX5_sum_0 rfl (lv_at hl 1 rfl) ?_
  refine r_if_lt (tgt := 19) hx hb (nI_tI (by omega)) dX5_sum_1 (by decide) (fun c1 => False.elim (by omega)) (fun c1 => ?_)
  refine lv_iload_n hx hb dX5_sum_4 rfl (lv_at hl 1 rfl) ?_
  refine lv_bipush (v := (nI 6)) hx hb dX5_sum_5 (by decide) ?_
  refine r_icmp_ge (tgt := 19) hx hb (nI_tI (by omega)) (nI_tI (by omega)) dX5_sum_7 (by decide) (fun c7 => False.elim (by omega)) (fun c7 => ?_)
  refine lv_aload_n hx hb dX5_sum_10 rfl (lv_at hl 0 rfl) ?_
  refine va_get (D := dg) (ci := 5) (v := .ref u1) (C := RX5) (T := TX5) (N := 1) hx hb hts in5 hown hK hP 0 rfl rfl 0 (by decide) f9 (fun _ h9 => h9) rfl dX5_sum_11 ?_
  refine lv_iload_n hx hb dX5_sum_14 rfl (lv_at hl 1 rfl) ?_
  refine r_iald_n hx hb hK hP 1 rfl (k := a) (by omega) (by omega) dX5_sum_15 ?_
  refine lv_goto (tgt := 20) hx hb dX5_sum_16 (by decide) ?_
  exact hret (f a) H locs _ ls (rfl) rfl hS dX5_sum_20
