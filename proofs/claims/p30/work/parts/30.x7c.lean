theorem hdX7_traceChain : yX7_traceChain.cls = RX7 ∧ yX7_traceChain.cls ≠ "java/lang/invoke/MethodHandle" ∧ yX7_traceChain.cls ≠ "java/lang/invoke/VarHandle" ∧ (parseMethodDescriptor yX7_traceChain.desc).map (fun d => d.parameters.length) = some 0 := by decide +kernel
set_option maxHeartbeats 4000000 in
set_option maxRecDepth 100000 in
theorem kX7_traceChain (ln : Launch) (dg : va_G) (tq : ClassId × ClassId) (x0 xl xh xt xp xo xu xw : Nat)(xlc : Nat) (c : Row) (s : Row) (hF : FS s c)(xwe : Nat) (wl : Int32) (wf : Row) : MV ln yX7_traceChain wsX7_traceChain (rmm 2 47) dg tq [.ref x0] [(x0, .inr (7, [.ref xl, .ref xh, .ref xt, .ref xp, .ref xo, .ref xu, .ref xw])), (xl, .inr (1, [.ref xlc])), (xlc, .inl (tq.1, 1473, .inl c)), (xw, .inr (3, [.ref xwe, .int wl])), (xwe, .inl (tq.1, 60, .inl wf))] (fun (u : Row) => ∀ k, k < dep s (hE s) → u k = nI (cE s k)) (fun u => [(x0, .inr (7, [.ref xl, .ref xh, .ref xt, .ref xp, .ref xo, .ref xu, .ref xw])), (xl, .inr (1, [.ref xlc])), (xlc, .inl (tq.1, 1473, .inl c)), (xw, .inr (3, [.ref xwe, .int (nI (dep s (hE s)))])), (xwe, .inl (tq.1, 60, .inl u))]) := by
  refine MV.enter cX7_traceChain 2 (by decide) rfl rfl (Nat.le_of_ble_eq_true rfl) ?_
  intro pP eE sS mM aA bB mT cC QQ AA hA hAT hret H locs hP hD hS ls hl
  obtain ⟨hx, hb, hml, hown, hts, hK, hN⟩ := hAT
  have hown : sS.vm.findClass RX7 = some mM.cls := hown
  have hl : lv_has ls 2 [(0, .ref x0)] := hl
  have in7 : ∀ w ∈ u_ws RX7 TX7 7, w ∈ wsX7_traceChain := (fun _ h9 => List.mem_cons_of_mem _ (List.mem_append_left _ (List.mem_append_left _ (List.mem_append_right _ h9))))
  have f12 := hts (.fieldLink RX7 12 "OrphanChain" "ledger" "LOrphanChain$Ledger;") (List.mem_of_getElem? (i := 1) rfl)
  have f54 := hts (.fieldLink RX7 54 "OrphanChain" "path" "LOrphanChain$Path;") (List.mem_of_getElem? (i := 2) rfl)
  obtain ⟨hR, hW, hs0, hs1⟩ := id hF
  have hn60 := hW.n60
  have hb10 := hW.b10
  have hs8 := hW.s8
  have hhn := hW.hn
  have hcl := cntF_le (loudB s) (nB s)
  refine lv_aload_n hx hb dX7_traceChain_0 rfl (lv_at hl 0 rfl) ?_
  refine va_get (D := dg) (ci := 7) (v := .ref xl) (C := RX7) (T := TX7) (N := 7) hx hb hts in7 hown hK hP 0 rfl rfl 0 (by decide) f12 (fun _ h9 => h9) rfl dX7_traceChain_1 ?_
  refine lv_iconst (v := (nI 1)) hx hb dX7_traceChain_4 (by decide) ?_
  refine call_x (va_runV (As := [.int (nI 1)]) (rest := []) ⟨hx, hb, hml, hown, hts⟩ (kX1_number ln dg tq (h0 := xl) (h1 := xlc) (c := c) (k := 1) (hk := (by omega)) H.size) (cwV 1 hts gX7_traceChain_X1_number rfl rfl rfl hdX1_number ⟨Nat.le_of_ble_eq_true rfl, Nat.le_of_ble_eq_true rfl⟩) (preVR hK hN hP [1, 2] rfl 1 rfl rfl [.int (nI 1)]) rfl rfl hl.1 rfl (lv_room (Nat.le_of_ble_eq_true rfl)) dX7_traceChain_5 ⟨Nat.le_refl _, Nat.le_refl _⟩) hP hS hA (fun H locs hP hS => ?_)
  refine r_top (show (c 1) = (nI (hE s)) from (hR.hh hW)) ?_
  refine lv_istore_n (lv' := [(1, .int (nI (hE s))), (0, .ref x0)]) hx hb dX7_traceChain_8 rfl hl (by decide) rfl (fun ls hl => ?_)
  refine lv_aload_n hx hb dX7_traceChain_9 rfl (lv_at hl 1 rfl) ?_
  refine va_get (D := dg) (ci := 7) (v := .ref xw) (C := RX7) (T := TX7) (N := 7) hx hb hts in7 hown hK hP 0 rfl rfl 6 (by decide) f54 (fun _ h9 => h9) rfl dX7_traceChain_10 ?_
  refine lv_aload_n hx hb dX7_traceChain_13 rfl (lv_at hl 1 rfl) ?_
  refine va_get (D := dg) (ci := 7) (v := .ref xl) (C := RX7) (T := TX7) (N := 7) hx hb hts in7 hown hK hP 0 rfl rfl 0 (by decide) f12 (fun _ h9 => h9) rfl dX7_traceChain_14 ?_
  refine lv_iload_n hx hb dX7_traceChain_17 rfl (lv_at hl 0 rfl) ?_
  refine lv_aload_n hx hb dX7_traceChain_18 rfl (lv_at hl 1 rfl) ?_
  refine va_get (D := dg) (ci := 7) (v := .ref xl) (C := RX7) (T := TX7) (N := 7) hx hb hts in7 hown hK hP 0 rfl rfl 0 (by decide) f12 (fun _ h9 => h9) rfl dX7_traceChain_19 ?_
  refine lv_iload_n hx hb dX7_traceChain_22 rfl (lv_at hl 0 rfl) ?_
  refine call_x (va_runV (As := [.int (nI (hE s))]) (rest := [.int (nI (hE s)), .ref xl, .ref xw]) ⟨hx, hb, hml, hown, hts⟩ (kX1_pathLength ln dg tq (h0 := xl) (h1 := xlc) (c := c) (s := s) (hR := (by omega)) (hW := (by omega)) (y := hE s) (hy := (by omega)) H.size) (cwV 1 hts gX7_traceChain_X1_pathLength rfl rfl rfl hdX1_pathLength ⟨Nat.le_of_ble_eq_true rfl, Nat.le_of_ble_eq_true rfl⟩) (preVR hK hN hP [1, 2] rfl 1 rfl rfl [.int (nI (hE s))]) rfl rfl hl.1 rfl (lv_room (Nat.le_of_ble_eq_true rfl)) dX7_traceChain_23 ⟨Nat.le_refl _, Nat.le_refl _⟩) hP hS hA (fun H locs hP hS => ?_)
  refine call_v (wr := [(x0, .inr (7, [.ref xl, .ref xh, .ref xt, .ref xp, .ref xo, .ref xu, .ref xw]))]) (va_runV (As := [.ref xl, .int (nI (hE s)), .int (nI (dep s (hE s)))]) (rest := []) ⟨hx, hb, hml, hown, hts⟩ (kX3_trace ln dg tq (w0 := xw) (w1 := xwe) (len := wl) (pc := wf) (h0 := xl) (h1 := xlc) (c := c) (s := s) (hR := (by omega)) (hW := (by omega)) (leaf := hE s) (cnt := dep s (hE s)) (hl0 := (by omega)) (hc0 := (by omega)) H.size) (cwV 3 hts gX7_traceChain_X3_trace rfl rfl rfl hdX3_trace ⟨Nat.le_of_ble_eq_true rfl, Nat.le_of_ble_eq_true rfl⟩) (preVB hK hN hP hD [3, 4, 1, 2] rfl rfl rfl 3 rfl rfl [.ref xl, .int (nI (hE s)), .int (nI (dep s (hE s)))]) rfl rfl hl.1 rfl (lv_room (Nat.le_of_ble_eq_true rfl)) dX7_traceChain_26 ⟨Nat.le_refl _, Nat.le_refl _⟩) hP hD hS hA [3, 4, 1, 2] [0] rfl rfl (by decide) (by decide) (fun u26 H locs hw26 hP hD hS => ?_)
  obtain ⟨g26, rfl⟩ : ∃ z, z = u26 := ⟨_, rfl⟩
  have hP : va_P dg vwCl [(x0, .inr (7, [.ref xl, .ref xh, .ref xt, .ref xp, .ref xo, .ref xu, .ref xw])), (xw, .inr (3, [.ref xwe, .int (nI (dep s (hE s)))])), (xwe, .inl (tq.1, 60, .inl g26)), (xl, .inr (1, [.ref xlc])), (xlc, .inl (tq.1, 1473, .inl c))] H := hP
  have hD : va_D AA [(x0, .inr (7, [.ref xl, .ref xh, .ref xt, .ref xp, .ref xo, .ref xu, .ref xw])), (xw, .inr (3, [.ref xwe, .int (nI (dep s (hE s)))])), (xwe, .inl (tq.1, 60, .inl g26)), (xl, .inr (1, [.ref xlc])), (xlc, .inl (tq.1, 1473, .inl c))] := hD
  exact hret (g26) H locs _ ls (hw26) (hP.sub [0, 3, 4, 1, 2] rfl) (hD.sub [0, 3, 4, 1, 2] (by decide) rfl) hS dX7_traceChain_29
theorem hdX7_layOut : yX7_layOut.cls = RX7 ∧ yX7_layOut.cls ≠ "java/lang/invoke/MethodHandle" ∧ yX7_layOut.cls ≠ "java/lang/invoke/VarHandle" ∧ (parseMethodDescriptor yX7_layOut.desc).map (fun d => d.parameters.length) = some 1 := by decide +kernel
set_option maxHeartbeats 4000000 in
set_option maxRecDepth 100000 in
theorem kX7_layOut (ln : Launch) (dg : va_G) (tq : ClassId × ClassId) (x0 xl xh xt xp xo xu xw : Nat)(xlc : Nat) (c : Row) (s : Row) (hF : FS s c)(xus : Nat) (uf : Row)(xwe : Nat) (wl : Int32) (wf : Row) (b : Nat) (hb0 : b < nB s) : MV ln yX7_layOut wsX7_layOut (rmm 3 70) dg tq [.ref x0, .int (nI b)] [(x0, .inr (7, [.ref xl, .ref xh, .ref xt, .ref xp, .ref xo, .ref xu, .ref xw])), (xl, .inr (1, [.ref xlc])), (xlc, .inl (tq.1, 1473, .inl c)), (xu, .inr (5, [.ref xus])), (xus, .inl (tq.1, 6, .inl uf)), (xw, .inr (3, [.ref xwe, .int wl])), (xwe, .inl (tq.1, 60, .inl wf))] (fun (u : Row × Row) => SV u.1 (bal s (hE s)) ∧ ∀ k, k < mn s b → u.2 k = nI (brE s b k)) (fun u => [(x0, .inr (7, [.ref xl, .ref xh, .ref xt, .ref xp, .ref xo, .ref xu, .ref xw])), (xl, .inr (1, [.ref xlc])), (xlc, .inl (tq.1, 1473, .inl c)), (xu, .inr (5, [.ref xus])), (xus, .inl (tq.1, 6, .inl u.1)), (xw, .inr (3, [.ref xwe, .int (nI (mn s b))])), (xwe, .inl (tq.1, 60, .inl u.2))]) := by
  refine MV.enter cX7_layOut 2 (by decide) rfl rfl (Nat.le_of_ble_eq_true rfl) ?_
  intro pP eE sS mM aA bB mT cC QQ AA hA hAT hret H locs hP hD hS ls hl
  obtain ⟨hx, hb, hml, hown, hts, hK, hN⟩ := hAT
  have hown : sS.vm.findClass RX7 = some mM.cls := hown
  have hl : lv_has ls 2 [(0, .ref x0), (1, .int (nI b))] := hl
  have in7 : ∀ w ∈ u_ws RX7 TX7 7, w ∈ wsX7_layOut := (fun _ h9 => List.mem_cons_of_mem _ (List.mem_append_left _ (List.mem_append_left _ (List.mem_append_left _ (List.mem_append_right _ h9)))))
  have f54 := hts (.fieldLink RX7 54 "OrphanChain" "path" "LOrphanChain$Path;") (List.mem_of_getElem? (i := 1) rfl)
  have f12 := hts (.fieldLink RX7 12 "OrphanChain" "ledger" "LOrphanChain$Ledger;") (List.mem_of_getElem? (i := 2) rfl)
  have f47 := hts (.fieldLink RX7 47 "OrphanChain" "purse" "LOrphanChain$Purse;") (List.mem_of_getElem? (i := 3) rfl)
  obtain ⟨hR, hW, hs0, hs1⟩ := id hF
  have hn60 := hW.n60
  have hb10 := hW.b10
  have hs8 := hW.s8
  have hhn := hW.hn
  have hcl := cntF_le (loudB s) (nB s)
  refine lv_aload_n hx hb dX7_layOut_0 rfl (lv_at hl 0 rfl) ?_
  refine va_get (D := dg) (ci := 7) (v := .ref xw) (C := RX7) (T := TX7) (N := 7) hx hb hts in7 hown hK hP 0 rfl rfl 6 (by decide) f54 (fun _ h9 => h9) rfl dX7_layOut_1 ?_
  refine lv_aload_n hx hb dX7_layOut_4 rfl (lv_at hl 0 rfl) ?_
  refine va_get (D := dg) (ci := 7) (v := .ref xl) (C := RX7) (T := TX7) (N := 7) hx hb hts in7 hown hK hP 0 rfl rfl 0 (by decide) f12 (fun _ h9 => h9) rfl dX7_layOut_5 ?_
  refine lv_iload_n hx hb dX7_layOut_8 rfl (lv_at hl 1 rfl) ?_
  refine call_v (wr := [(x0, .inr (7, [.ref xl, .ref xh, .ref xt, .ref xp, .ref xo, .ref xu, .ref xw])), (xu, .inr (5, [.ref xus])), (xus, .inl (tq.1, 6, .inl uf))]) (va_runV (As := [.ref xl, .int (nI b)]) (rest := []) ⟨hx, hb, hml, hown, hts⟩ (kX3_traceBranch ln dg tq (w0 := xw) (w1 := xwe) (len := wl) (pc := wf) (h0 := xl) (h1 := xlc) (c := c) (s := s) (hR := (by omega)) (hW := (by omega)) (b := b) (hb0 := (by omega)) H.size) (cwV 2 hts gX7_layOut_X3_traceBranch rfl rfl rfl hdX3_traceBranch ⟨Nat.le_of_ble_eq_true rfl, Nat.le_of_ble_eq_true rfl⟩) (preVB hK hN hP hD [5, 6, 1, 2] rfl rfl rfl 5 rfl rfl [.ref xl, .int (nI b)]) rfl rfl hl.1 rfl (lv_room (Nat.le_of_ble_eq_true rfl)) dX7_layOut_9 ⟨Nat.le_refl _, Nat.le_refl _⟩) hP hD hS hA [5, 6, 1, 2] [0, 3, 4] rfl rfl (by decide) (by decide) (fun u9 H locs hw9 hP hD hS => ?_)
  obtain ⟨g9, rfl⟩ : ∃ z, z = u9 := ⟨_, rfl⟩
  have hP : va_P dg vwCl [(x0, .inr (7, [.ref xl, .ref xh, .ref xt, .ref xp, .ref xo, .ref xu, .ref xw])), (xu, .inr (5, [.ref xus])), (xus, .inl (tq.1, 6, .inl uf)), (xw, .inr (3, [.ref xwe, .int (nI (mn s b))])), (xwe, .inl (tq.1, 60, .inl g9)), (xl, .inr (1, [.ref xlc])), (xlc, .inl (tq.1, 1473, .inl c))] H := hP
  have hD : va_D AA [(x0, .inr (7, [.ref xl, .ref xh, .ref xt, .ref xp, .ref xo, .ref xu, .ref xw])), (xu, .inr (5, [.ref xus])), (xus, .inl (tq.1, 6, .inl uf)), (xw, .inr (3, [.ref xwe, .int (nI (mn s b))])), (xwe, .inl (tq.1, 60, .inl g9)), (xl, .inr (1, [.ref xlc])), (xlc, .inl (tq.1, 1473, .inl c))] := hD
  refine lv_aload_n hx hb dX7_layOut_12 rfl (lv_at hl 0 rfl) ?_
  refine va_get (D := dg) (ci := 7) (v := .ref xu) (C := RX7) (T := TX7) (N := 7) hx hb hts in7 hown hK hP 0 rfl rfl 5 (by decide) f47 (fun _ h9 => h9) rfl dX7_layOut_13 ?_
  refine lv_aload_n hx hb dX7_layOut_16 rfl (lv_at hl 0 rfl) ?_
  refine va_get (D := dg) (ci := 7) (v := .ref xl) (C := RX7) (T := TX7) (N := 7) hx hb hts in7 hown hK hP 0 rfl rfl 0 (by decide) f12 (fun _ h9 => h9) rfl dX7_layOut_17 ?_
  refine lv_aload_n hx hb dX7_layOut_20 rfl (lv_at hl 0 rfl) ?_
  refine va_get (D := dg) (ci := 7) (v := .ref xl) (C := RX7) (T := TX7) (N := 7) hx hb hts in7 hown hK hP 0 rfl rfl 0 (by decide) f12 (fun _ h9 => h9) rfl dX7_layOut_21 ?_
  refine lv_iconst (v := (nI 1)) hx hb dX7_layOut_24 (by decide) ?_
  refine call_x (va_runV (As := [.int (nI 1)]) (rest := [.ref xl, .ref xu]) ⟨hx, hb, hml, hown, hts⟩ (kX1_number ln dg tq (h0 := xl) (h1 := xlc) (c := c) (k := 1) (hk := (by omega)) H.size) (cwV 1 hts gX7_layOut_X1_number rfl rfl rfl hdX1_number ⟨Nat.le_of_ble_eq_true rfl, Nat.le_of_ble_eq_true rfl⟩) (preVR hK hN hP [5, 6] rfl 5 rfl rfl [.int (nI 1)]) rfl rfl hl.1 rfl (lv_room (Nat.le_of_ble_eq_true rfl)) dX7_layOut_25 ⟨Nat.le_refl _, Nat.le_refl _⟩) hP hS hA (fun H locs hP hS => ?_)
  refine r_top (show (c 1) = (nI (hE s)) from (hR.hh hW)) ?_
  refine call_v (wr := [(x0, .inr (7, [.ref xl, .ref xh, .ref xt, .ref xp, .ref xo, .ref xu, .ref xw])), (xw, .inr (3, [.ref xwe, .int (nI (mn s b))])), (xwe, .inl (tq.1, 60, .inl g9))]) (va_runV (As := [.ref xl, .int (nI (hE s))]) (rest := []) ⟨hx, hb, hml, hown, hts⟩ (kX5_fill ln dg tq (u0 := xu) (u1 := xus) (f := uf) (h0 := xl) (h1 := xlc) (c := c) (s := s) (hR := (by omega)) (hW := (by omega)) (leaf := hE s) (hl0 := (by omega)) H.size) (cwV 2 hts gX7_layOut_X5_fill rfl rfl rfl hdX5_fill ⟨Nat.le_of_ble_eq_true rfl, Nat.le_of_ble_eq_true rfl⟩) (preVB hK hN hP hD [1, 2, 5, 6] rfl rfl rfl 1 rfl rfl [.ref xl, .int (nI (hE s))]) rfl rfl hl.1 rfl (lv_room (Nat.le_of_ble_eq_true rfl)) dX7_layOut_28 ⟨Nat.le_refl _, Nat.le_refl _⟩) hP hD hS hA [1, 2, 5, 6] [0, 3, 4] rfl rfl (by decide) (by decide) (fun u28 H locs hw28 hP hD hS => ?_)
  obtain ⟨g28, rfl⟩ : ∃ z, z = u28 := ⟨_, rfl⟩
  have hP : va_P dg vwCl [(x0, .inr (7, [.ref xl, .ref xh, .ref xt, .ref xp, .ref xo, .ref xu, .ref xw])), (xw, .inr (3, [.ref xwe, .int (nI (mn s b))])), (xwe, .inl (tq.1, 60, .inl g9)), (xu, .inr (5, [.ref xus])), (xus, .inl (tq.1, 6, .inl g28)), (xl, .inr (1, [.ref xlc])), (xlc, .inl (tq.1, 1473, .inl c))] H := hP
  have hD : va_D AA [(x0, .inr (7, [.ref xl, .ref xh, .ref xt, .ref xp, .ref xo, .ref xu, .ref xw])), (xw, .inr (3, [.ref xwe, .int (nI (mn s b))])), (xwe, .inl (tq.1, 60, .inl g9)), (xu, .inr (5, [.ref xus])), (xus, .inl (tq.1, 6, .inl g28)), (xl, .inr (1, [.ref xlc])), (xlc, .inl (tq.1, 1473, .inl c))] := hD
  exact hret (g28, g9) H locs _ ls (show SV g28 (bal s (hE s)) ∧ ∀ k, k < mn s b → g9 k = nI (brE s b k) from (⟨hw28, hw9⟩)) (hP.sub [0, 5, 6, 3, 4, 1, 2] rfl) (hD.sub [0, 5, 6, 3, 4, 1, 2] (by decide) rfl) hS dX7_layOut_31
theorem hdX7_totalAt : yX7_totalAt.cls = RX7 ∧ yX7_totalAt.cls ≠ "java/lang/invoke/MethodHandle" ∧ yX7_totalAt.cls ≠ "java/lang/invoke/VarHandle" ∧ (parseMethodDescriptor yX7_totalAt.desc).map (fun d => d.parameters.length) = some 1 := by decide +kernel
set_option maxHeartbeats 4000000 in
set_option maxRecDepth 100000 in
theorem kX7_totalAt (ln : Launch) (dg : va_G) (tq : ClassId × ClassId) (x0 xl xh xt xp xo xu xw : Nat)(xlc : Nat) (c : Row) (s : Row) (hF : FS s c)(xus : Nat) (uf : Row) (e : Nat) (he : e < nE s) : MW ln yX7_totalAt wsX7_totalAt (rmm 3 70) dg tq [.ref x0, .int (nI e)] [(x0, .inr (7, [.ref xl, .ref xh, .ref xt, .ref xp, .ref xo, .ref xu, .ref xw])), (xl, .inr (1, [.ref xlc])), (xlc, .inl (tq.1, 1473, .inl c)), (xu, .inr (5, [.ref xus])), (xus, .inl (tq.1, 6, .inl uf))] (fun (r : Int32) (u : Row) => r = (totI (bal s e) 6)) (fun u => [(x0, .inr (7, [.ref xl, .ref xh, .ref xt, .ref xp, .ref xo, .ref xu, .ref xw])), (xl, .inr (1, [.ref xlc])), (xlc, .inl (tq.1, 1473, .inl c)), (xu, .inr (5, [.ref xus])), (xus, .inl (tq.1, 6, .inl u))]) := by
  refine MW.enter cX7_totalAt 2 .int (by decide) rfl rfl (Nat.le_of_ble_eq_true rfl) ?_
  intro pP eE sS mM aA bB mT cC QQ AA hA hAT hret H locs hP hD hS ls hl
  obtain ⟨hx, hb, hml, hown, hts, hK, hN⟩ := hAT
  have hown : sS.vm.findClass RX7 = some mM.cls := hown
  have hl : lv_has ls 2 [(0, .ref x0), (1, .int (nI e))] := hl
  have in7 : ∀ w ∈ u_ws RX7 TX7 7, w ∈ wsX7_totalAt := (fun _ h9 => List.mem_cons_of_mem _ (List.mem_append_left _ (List.mem_append_left _ (List.mem_append_right _ h9))))
  have f47 := hts (.fieldLink RX7 47 "OrphanChain" "purse" "LOrphanChain$Purse;") (List.mem_of_getElem? (i := 1) rfl)
  have f12 := hts (.fieldLink RX7 12 "OrphanChain" "ledger" "LOrphanChain$Ledger;") (List.mem_of_getElem? (i := 2) rfl)
  obtain ⟨hR, hW, hs0, hs1⟩ := id hF
  have hn60 := hW.n60
  have hb10 := hW.b10
  have hs8 := hW.s8
  have hhn := hW.hn
  have hcl := cntF_le (loudB s) (nB s)
  refine lv_aload_n hx hb dX7_totalAt_0 rfl (lv_at hl 0 rfl) ?_
  refine va_get (D := dg) (ci := 7) (v := .ref xu) (C := RX7) (T := TX7) (N := 7) hx hb hts in7 hown hK hP 0 rfl rfl 5 (by decide) f47 (fun _ h9 => h9) rfl dX7_totalAt_1 ?_
  refine lv_aload_n hx hb dX7_totalAt_4 rfl (lv_at hl 0 rfl) ?_
  refine va_get (D := dg) (ci := 7) (v := .ref xl) (C := RX7) (T := TX7) (N := 7) hx hb hts in7 hown hK hP 0 rfl rfl 0 (by decide) f12 (fun _ h9 => h9) rfl dX7_totalAt_5 ?_
  refine lv_iload_n hx hb dX7_totalAt_8 rfl (lv_at hl 1 rfl) ?_
  refine call_v (wr := [(x0, .inr (7, [.ref xl, .ref xh, .ref xt, .ref xp, .ref xo, .ref xu, .ref xw]))]) (va_runV (As := [.ref xl, .int (nI e)]) (rest := []) ⟨hx, hb, hml, hown, hts⟩ (kX5_fill ln dg tq (u0 := xu) (u1 := xus) (f := uf) (h0 := xl) (h1 := xlc) (c := c) (s := s) (hR := (by omega)) (hW := (by omega)) (leaf := e) (hl0 := (by omega)) H.size) (cwV 2 hts gX7_totalAt_X5_fill rfl rfl rfl hdX5_fill ⟨Nat.le_of_ble_eq_true rfl, Nat.le_of_ble_eq_true rfl⟩) (preVB hK hN hP hD [3, 4, 1, 2] rfl rfl rfl 3 rfl rfl [.ref xl, .int (nI e)]) rfl rfl hl.1 rfl (lv_room (Nat.le_of_ble_eq_true rfl)) dX7_totalAt_9 ⟨Nat.le_refl _, Nat.le_refl _⟩) hP hD hS hA [3, 4, 1, 2] [0] rfl rfl (by decide) (by decide) (fun u9 H locs hw9 hP hD hS => ?_)
  obtain ⟨g9, rfl⟩ : ∃ z, z = u9 := ⟨_, rfl⟩
  have hP : va_P dg vwCl [(x0, .inr (7, [.ref xl, .ref xh, .ref xt, .ref xp, .ref xo, .ref xu, .ref xw])), (xu, .inr (5, [.ref xus])), (xus, .inl (tq.1, 6, .inl g9)), (xl, .inr (1, [.ref xlc])), (xlc, .inl (tq.1, 1473, .inl c))] H := hP
  have hD : va_D AA [(x0, .inr (7, [.ref xl, .ref xh, .ref xt, .ref xp, .ref xo, .ref xu, .ref xw])), (xu, .inr (5, [.ref xus])), (xus, .inl (tq.1, 6, .inl g9)), (xl, .inr (1, [.ref xlc])), (xlc, .inl (tq.1, 1473, .inl c))] := hD
  refine lv_aload_n hx hb dX7_totalAt_12 rfl (lv_at hl 0 rfl) ?_
  refine va_get (D := dg) (ci := 7) (v := .ref xu) (C := RX7) (T := TX7) (N := 7) hx hb hts in7 hown hK hP 0 rfl rfl 5 (by decide) f47 (fun _ h9 => h9) rfl dX7_totalAt_13 ?_
  refine call_x (va_runV (As := []) (rest := []) ⟨hx, hb, hml, hown, hts⟩ (kX5_total ln dg tq (u0 := xu) (u1 := xus) (f := g9) H.size) (cwV 0 hts gX7_totalAt_X5_total rfl rfl rfl hdX5_total ⟨Nat.le_of_ble_eq_true rfl, Nat.le_of_ble_eq_true rfl⟩) (preVR hK hN hP [1, 2] rfl 1 rfl rfl []) rfl rfl hl.1 rfl (lv_room (Nat.le_of_ble_eq_true rfl)) dX7_totalAt_16 ⟨Nat.le_refl _, Nat.le_refl _⟩) hP hS hA (fun H locs hP hS => ?_)
  refine r_top (show (totF g9 6) = (totI (bal s e) 6) from totF_I hw9 (by omega)) ?_
  exact hret (totI (bal s e) 6) (g9) H locs _ ls (rfl) rfl (hP.sub [0, 3, 4, 1, 2] rfl) (hD.sub [0, 3, 4, 1, 2] (by decide) rfl) hS dX7_totalAt_19
theorem hdX7_count : yX7_count.cls = RX7 ∧ yX7_count.cls ≠ "java/lang/invoke/MethodHandle" ∧ yX7_count.cls ≠ "java/lang/invoke/VarHandle" ∧ (parseMethodDescriptor yX7_count.desc).map (fun d => d.parameters.length) = some 1 := by decide +kernel
set_option maxHeartbeats 4000000 in
set_option maxRecDepth 100000 in
theorem kX7_count (ln : Launch) (dg : va_G) (tq : ClassId × ClassId) (x0 xl xh xt xp xo xu xw : Nat)(xlc : Nat) (c : Row) (s : Row) (hF : FS s c)(xhc : Nat) (st nx : Nat) (hc : Row) (xtc : Nat) (tl : Nat) (tx : Row) (x : Int32) : MR ln yX7_count wsX7_count (rmm 4 87) dg tq [.ref x0, .int x] [(x0, .inr (7, [.ref xl, .ref xh, .ref xt, .ref xp, .ref xo, .ref xu, .ref xw])), (xl, .inr (1, [.ref xlc])), (xlc, .inl (tq.1, 1473, .inl c)), (xh, .inr (0, [.ref xhc, .int (nI st), .int (nI nx)])), (xhc, .inl (tq.1, 7365, .inl hc)), (xt, .inr (6, [.ref xtc, .int (nI tl)])), (xtc, .inl (tq.1, 100, .inl tx))] (fun r => r = (ctR s st tl x)) := by
  refine MR.enter cX7_count 2 .int (by decide) rfl rfl (Nat.le_of_ble_eq_true rfl) ?_
  intro pP eE sS mM aA bB mT cC QQ AA hA hAT hret H locs hP hS ls hl
  obtain ⟨hx, hb, hml, hown, hts, hK, hN⟩ := hAT
  have hown : sS.vm.findClass RX7 = some mM.cls := hown
  have hl : lv_has ls 2 [(0, .ref x0), (1, .int x)] := hl
  have in7 : ∀ w ∈ u_ws RX7 TX7 7, w ∈ wsX7_count := (fun _ h9 => List.mem_cons_of_mem _ (List.mem_append_left _ (List.mem_append_left _ (List.mem_append_left _ (List.mem_append_right _ h9)))))
  have f12 := hts (.fieldLink RX7 12 "OrphanChain" "ledger" "LOrphanChain$Ledger;") (List.mem_of_getElem? (i := 1) rfl)
  have f19 := hts (.fieldLink RX7 19 "OrphanChain" "history" "LOrphanChain$History;") (List.mem_of_getElem? (i := 2) rfl)
  have f26 := hts (.fieldLink RX7 26 "OrphanChain" "text" "LOrphanChain$Text;") (List.mem_of_getElem? (i := 3) rfl)
  have k65 := hts (.constant RX7 65 (-100001)) (List.mem_of_getElem? (i := 4) rfl)
  obtain ⟨hR, hW, hs0, hs1⟩ := id hF
  have hn60 := hW.n60
  have hb10 := hW.b10
  have hs8 := hW.s8
  have hhn := hW.hn
  have hcl := cntF_le (loudB s) (nB s)
  refine lv_iload_n hx hb dX7_count_0 rfl (lv_at hl 1 rfl) ?_
  by_cases hsw : 0 ≤ x.toInt ∧ x.toInt < ((15 : Nat) : Int)
  · obtain ⟨jsw, hjsw, rfl⟩ := tI_natlt hsw.1 hsw.2
    rcases (show jsw = 0 ∨ jsw = 1 ∨ jsw = 2 ∨ jsw = 3 ∨ jsw = 4 ∨ jsw = 5 ∨ jsw = 6 ∨ jsw = 7 ∨ jsw = 8 ∨ jsw = 9 ∨ jsw = 10 ∨ jsw = 11 ∨ jsw = 12 ∨ jsw = 13 ∨ jsw = 14 by omega) with rfl | rfl | rfl | rfl | rfl | rfl | rfl | rfl | rfl | rfl | rfl | rfl | rfl | rfl | rfl
    · skip
      refine lv_tableIn (off := 75) (tgt := 76) hx hb dX7_count_1 (by decide) (by decide) rfl (by decide) ?_
      refine lv_aload_n hx hb dX7_count_76 rfl (lv_at hl 0 rfl) ?_
      refine va_get (D := dg) (ci := 7) (v := .ref xl) (C := RX7) (T := TX7) (N := 7) hx hb hts in7 hown hK hP 0 rfl rfl 0 (by decide) f12 (fun _ h9 => h9) rfl dX7_count_77 ?_
      refine lv_iconst (v := (nI 0)) hx hb dX7_count_80 (by decide) ?_
      refine call_x (va_runV (As := [.int (nI 0)]) (rest := []) ⟨hx, hb, hml, hown, hts⟩ (kX1_number ln dg tq (h0 := xl) (h1 := xlc) (c := c) (k := 0) (hk := (by omega)) H.size) (cwV 1 hts gX7_count_X1_number rfl rfl rfl hdX1_number ⟨Nat.le_of_ble_eq_true rfl, Nat.le_of_ble_eq_true rfl⟩) (preVR hK hN hP [1, 2] rfl 1 rfl rfl [.int (nI 0)]) rfl rfl hl.1 rfl (lv_room (Nat.le_of_ble_eq_true rfl)) dX7_count_81 ⟨Nat.le_refl _, Nat.le_refl _⟩) hP hS hA (fun H locs hP hS => ?_)
      refine r_top (show (c 0) = (nI (nE s)) from (hR.nn hW)) ?_
      exact hret (nI (nE s)) H locs _ ls (by rw [ctR, hasN_n (by omega) (by omega), if_pos rfl, cl_n (by omega)]; rfl) rfl hS dX7_count_84
    · skip
      refine lv_tableIn (off := 84) (tgt := 85) hx hb dX7_count_1 (by decide) (by decide) rfl (by decide) ?_
      refine lv_aload_n hx hb dX7_count_85 rfl (lv_at hl 0 rfl) ?_
      refine va_get (D := dg) (ci := 7) (v := .ref xl) (C := RX7) (T := TX7) (N := 7) hx hb hts in7 hown hK hP 0 rfl rfl 0 (by decide) f12 (fun _ h9 => h9) rfl dX7_count_86 ?_
      refine lv_iconst (v := (nI 1)) hx hb dX7_count_89 (by decide) ?_
      refine call_x (va_runV (As := [.int (nI 1)]) (rest := []) ⟨hx, hb, hml, hown, hts⟩ (kX1_number ln dg tq (h0 := xl) (h1 := xlc) (c := c) (k := 1) (hk := (by omega)) H.size) (cwV 1 hts gX7_count_X1_number rfl rfl rfl hdX1_number ⟨Nat.le_of_ble_eq_true rfl, Nat.le_of_ble_eq_true rfl⟩) (preVR hK hN hP [1, 2] rfl 1 rfl rfl [.int (nI 1)]) rfl rfl hl.1 rfl (lv_room (Nat.le_of_ble_eq_true rfl)) dX7_count_90 ⟨Nat.le_refl _, Nat.le_refl _⟩) hP hS hA (fun H locs hP hS => ?_)
      refine r_top (show (c 1) = (nI (hE s)) from (hR.hh hW)) ?_
      exact hret (nI (hE s)) H locs _ ls (by rw [ctR, hasN_n (by omega) (by omega), if_pos rfl, cl_n (by omega)]; rfl) rfl hS dX7_count_93
    · skip
      refine lv_tableIn (off := 93) (tgt := 94) hx hb dX7_count_1 (by decide) (by decide) rfl (by decide) ?_
      refine lv_aload_n hx hb dX7_count_94 rfl (lv_at hl 0 rfl) ?_
      refine va_get (D := dg) (ci := 7) (v := .ref xl) (C := RX7) (T := TX7) (N := 7) hx hb hts in7 hown hK hP 0 rfl rfl 0 (by decide) f12 (fun _ h9 => h9) rfl dX7_count_95 ?_
      refine lv_aload_n hx hb dX7_count_98 rfl (lv_at hl 0 rfl) ?_
      refine va_get (D := dg) (ci := 7) (v := .ref xl) (C := RX7) (T := TX7) (N := 7) hx hb hts in7 hown hK hP 0 rfl rfl 0 (by decide) f12 (fun _ h9 => h9) rfl dX7_count_99 ?_
      refine lv_iconst (v := (nI 1)) hx hb dX7_count_102 (by decide) ?_
      refine call_x (va_runV (As := [.int (nI 1)]) (rest := [.ref xl]) ⟨hx, hb, hml, hown, hts⟩ (kX1_number ln dg tq (h0 := xl) (h1 := xlc) (c := c) (k := 1) (hk := (by omega)) H.size) (cwV 1 hts gX7_count_X1_number rfl rfl rfl hdX1_number ⟨Nat.le_of_ble_eq_true rfl, Nat.le_of_ble_eq_true rfl⟩) (preVR hK hN hP [1, 2] rfl 1 rfl rfl [.int (nI 1)]) rfl rfl hl.1 rfl (lv_room (Nat.le_of_ble_eq_true rfl)) dX7_count_103 ⟨Nat.le_refl _, Nat.le_refl _⟩) hP hS hA (fun H locs hP hS => ?_)
      refine r_top (show (c 1) = (nI (hE s)) from (hR.hh hW)) ?_
      refine call_x (va_runV (As := [.int (nI (hE s))]) (rest := []) ⟨hx, hb, hml, hown, hts⟩ (kX1_pathLength ln dg tq (h0 := xl) (h1 := xlc) (c := c) (s := s) (hR := (by omega)) (hW := (by omega)) (y := hE s) (hy := (by omega)) H.size) (cwV 1 hts gX7_count_X1_pathLength rfl rfl rfl hdX1_pathLength ⟨Nat.le_of_ble_eq_true rfl, Nat.le_of_ble_eq_true rfl⟩) (preVR hK hN hP [1, 2] rfl 1 rfl rfl [.int (nI (hE s))]) rfl rfl hl.1 rfl (lv_room (Nat.le_of_ble_eq_true rfl)) dX7_count_106 ⟨Nat.le_refl _, Nat.le_refl _⟩) hP hS hA (fun H locs hP hS => ?_)
      exact hret (nI (dep s (hE s))) H locs _ ls (by rw [ctR, hasN_n (by omega) (by omega), if_pos rfl, cl_n (by omega)]; rfl) rfl hS dX7_count_109
    · skip
      refine lv_tableIn (off := 109) (tgt := 110) hx hb dX7_count_1 (by decide) (by decide) rfl (by decide) ?_
      refine lv_aload_n hx hb dX7_count_110 rfl (lv_at hl 0 rfl) ?_
      refine va_get (D := dg) (ci := 7) (v := .ref xl) (C := RX7) (T := TX7) (N := 7) hx hb hts in7 hown hK hP 0 rfl rfl 0 (by decide) f12 (fun _ h9 => h9) rfl dX7_count_111 ?_
      refine lv_iconst (v := (nI 3)) hx hb dX7_count_114 (by decide) ?_
      refine call_x (va_runV (As := [.int (nI 3)]) (rest := []) ⟨hx, hb, hml, hown, hts⟩ (kX1_number ln dg tq (h0 := xl) (h1 := xlc) (c := c) (k := 3) (hk := (by omega)) H.size) (cwV 1 hts gX7_count_X1_number rfl rfl rfl hdX1_number ⟨Nat.le_of_ble_eq_true rfl, Nat.le_of_ble_eq_true rfl⟩) (preVR hK hN hP [1, 2] rfl 1 rfl rfl [.int (nI 3)]) rfl rfl hl.1 rfl (lv_room (Nat.le_of_ble_eq_true rfl)) dX7_count_115 ⟨Nat.le_refl _, Nat.le_refl _⟩) hP hS hA (fun H locs hP hS => ?_)
      refine r_top (show (c 3) = (nI (nB s)) from (hR.bb hW)) ?_
      exact hret (nI (nB s)) H locs _ ls (by rw [ctR, hasN_n (by omega) (by omega), if_pos rfl, cl_n (by omega)]; rfl) rfl hS dX7_count_118
    · skip
      refine lv_tableIn (off := 118) (tgt := 119) hx hb dX7_count_1 (by decide) (by decide) rfl (by decide) ?_
      refine lv_aload_n hx hb dX7_count_119 rfl (lv_at hl 0 rfl) ?_
      refine va_get (D := dg) (ci := 7) (v := .ref xl) (C := RX7) (T := TX7) (N := 7) hx hb hts in7 hown hK hP 0 rfl rfl 0 (by decide) f12 (fun _ h9 => h9) rfl dX7_count_120 ?_
      refine call_x (va_runV (As := []) (rest := []) ⟨hx, hb, hml, hown, hts⟩ (kX1_waitingBranches ln dg tq (h0 := xl) (h1 := xlc) (c := c) (s := s) (hR := (by omega)) (hW := (by omega)) H.size) (cwV 0 hts gX7_count_X1_waitingBranches rfl rfl rfl hdX1_waitingBranches ⟨Nat.le_of_ble_eq_true rfl, Nat.le_of_ble_eq_true rfl⟩) (preVR hK hN hP [1, 2] rfl 1 rfl rfl []) rfl rfl hl.1 rfl (lv_room (Nat.le_of_ble_eq_true rfl)) dX7_count_123 ⟨Nat.le_refl _, Nat.le_refl _⟩) hP hS hA (fun H locs hP hS => ?_)
      exact hret (nI (cntF (waitB s) (nB s))) H locs _ ls (by rw [ctR, hasN_n (by omega) (by omega), if_pos rfl, cl_n (by omega)]; rfl) rfl hS dX7_count_126
    · skip
      refine lv_tableIn (off := 126) (tgt := 127) hx hb dX7_count_1 (by decide) (by decide) rfl (by decide) ?_
      refine lv_aload_n hx hb dX7_count_127 rfl (lv_at hl 0 rfl) ?_
      refine va_get (D := dg) (ci := 7) (v := .ref xl) (C := RX7) (T := TX7) (N := 7) hx hb hts in7 hown hK hP 0 rfl rfl 0 (by decide) f12 (fun _ h9 => h9) rfl dX7_count_128 ?_
      refine call_x (va_runV (As := []) (rest := []) ⟨hx, hb, hml, hown, hts⟩ (kX1_loudBranches ln dg tq (h0 := xl) (h1 := xlc) (c := c) (s := s) (hR := (by omega)) (hW := (by omega)) H.size) (cwV 0 hts gX7_count_X1_loudBranches rfl rfl rfl hdX1_loudBranches ⟨Nat.le_of_ble_eq_true rfl, Nat.le_of_ble_eq_true rfl⟩) (preVR hK hN hP [1, 2] rfl 1 rfl rfl []) rfl rfl hl.1 rfl (lv_room (Nat.le_of_ble_eq_true rfl)) dX7_count_131 ⟨Nat.le_refl _, Nat.le_refl _⟩) hP hS hA (fun H locs hP hS => ?_)
      exact hret (nI (cntF (loudB s) (nB s))) H locs _ ls (by rw [ctR, hasN_n (by omega) (by omega), if_pos rfl, cl_n (by omega)]; rfl) rfl hS dX7_count_134
    · skip
      refine lv_tableIn (off := 134) (tgt := 135) hx hb dX7_count_1 (by decide) (by decide) rfl (by decide) ?_
      refine lv_aload_n hx hb dX7_count_135 rfl (lv_at hl 0 rfl) ?_
      refine va_get (D := dg) (ci := 7) (v := .ref xl) (C := RX7) (T := TX7) (N := 7) hx hb hts in7 hown hK hP 0 rfl rfl 0 (by decide) f12 (fun _ h9 => h9) rfl dX7_count_136 ?_
      refine lv_iconst (v := (nI 2)) hx hb dX7_count_139 (by decide) ?_
      refine call_x (va_runV (As := [.int (nI 2)]) (rest := []) ⟨hx, hb, hml, hown, hts⟩ (kX1_number ln dg tq (h0 := xl) (h1 := xlc) (c := c) (k := 2) (hk := (by omega)) H.size) (cwV 1 hts gX7_count_X1_number rfl rfl rfl hdX1_number ⟨Nat.le_of_ble_eq_true rfl, Nat.le_of_ble_eq_true rfl⟩) (preVR hK hN hP [1, 2] rfl 1 rfl rfl [.int (nI 2)]) rfl rfl hl.1 rfl (lv_room (Nat.le_of_ble_eq_true rfl)) dX7_count_140 ⟨Nat.le_refl _, Nat.le_refl _⟩) hP hS hA (fun H locs hP hS => ?_)
      refine r_top (show (c 2) = (s 3) from hR.pt) ?_
      exact hret (s 3) H locs _ ls (by rw [ctR, hasN_n (by omega) (by omega), if_pos rfl, cl_n (by omega)]; rfl) rfl hS dX7_count_143
    · skip
      refine lv_tableIn (off := 143) (tgt := 144) hx hb dX7_count_1 (by decide) (by decide) rfl (by decide) ?_
      refine lv_aload_n hx hb dX7_count_144 rfl (lv_at hl 0 rfl) ?_
      refine va_get (D := dg) (ci := 7) (v := .ref xl) (C := RX7) (T := TX7) (N := 7) hx hb hts in7 hown hK hP 0 rfl rfl 0 (by decide) f12 (fun _ h9 => h9) rfl dX7_count_145 ?_
      refine lv_iconst (v := (nI 4)) hx hb dX7_count_148 (by decide) ?_
      refine call_x (va_runV (As := [.int (nI 4)]) (rest := []) ⟨hx, hb, hml, hown, hts⟩ (kX1_number ln dg tq (h0 := xl) (h1 := xlc) (c := c) (k := 4) (hk := (by omega)) H.size) (cwV 1 hts gX7_count_X1_number rfl rfl rfl hdX1_number ⟨Nat.le_of_ble_eq_true rfl, Nat.le_of_ble_eq_true rfl⟩) (preVR hK hN hP [1, 2] rfl 1 rfl rfl [.int (nI 4)]) rfl rfl hl.1 rfl (lv_room (Nat.le_of_ble_eq_true rfl)) dX7_count_149 ⟨Nat.le_refl _, Nat.le_refl _⟩) hP hS hA (fun H locs hP hS => ?_)
      refine r_top (show (c 4) = (nI (nS s)) from (hR.ss hW)) ?_
      exact hret (nI (nS s)) H locs _ ls (by rw [ctR, hasN_n (by omega) (by omega), if_pos rfl, cl_n (by omega)]; rfl) rfl hS dX7_count_152
    · skip
      refine lv_tableIn (off := 152) (tgt := 153) hx hb dX7_count_1 (by decide) (by decide) rfl (by decide) ?_
      refine lv_aload_n hx hb dX7_count_153 rfl (lv_at hl 0 rfl) ?_
      refine va_get (D := dg) (ci := 7) (v := .ref xl) (C := RX7) (T := TX7) (N := 7) hx hb hts in7 hown hK hP 0 rfl rfl 0 (by decide) f12 (fun _ h9 => h9) rfl dX7_count_154 ?_
      refine call_x (va_runV (As := []) (rest := []) ⟨hx, hb, hml, hown, hts⟩ (kX1_brokenSeals ln dg tq (h0 := xl) (h1 := xlc) (c := c) (s := s) (hR := (by omega)) (hW := (by omega)) H.size) (cwV 0 hts gX7_count_X1_brokenSeals rfl rfl rfl hdX1_brokenSeals ⟨Nat.le_of_ble_eq_true rfl, Nat.le_of_ble_eq_true rfl⟩) (preVR hK hN hP [1, 2] rfl 1 rfl rfl []) rfl rfl hl.1 rfl (lv_room (Nat.le_of_ble_eq_true rfl)) dX7_count_157 ⟨Nat.le_refl _, Nat.le_refl _⟩) hP hS hA (fun H locs hP hS => ?_)
      exact hret (nI (cntF (fun k => !sealB s k) (nS s))) H locs _ ls (by rw [ctR, hasN_n (by omega) (by omega), if_pos rfl, cl_n (by omega)]; rfl) rfl hS dX7_count_160
    · skip
      refine lv_tableIn (off := 160) (tgt := 161) hx hb dX7_count_1 (by decide) (by decide) rfl (by decide) ?_
      refine lv_aload_n hx hb dX7_count_161 rfl (lv_at hl 0 rfl) ?_
      refine va_get (D := dg) (ci := 7) (v := .ref xl) (C := RX7) (T := TX7) (N := 7) hx hb hts in7 hown hK hP 0 rfl rfl 0 (by decide) f12 (fun _ h9 => h9) rfl dX7_count_162 ?_
      refine call_x (va_runV (As := []) (rest := []) ⟨hx, hb, hml, hown, hts⟩ (kX1_brokenLinks ln dg tq (h0 := xl) (h1 := xlc) (c := c) (s := s) (hR := (by omega)) (hW := (by omega)) H.size) (cwV 0 hts gX7_count_X1_brokenLinks rfl rfl rfl hdX1_brokenLinks ⟨Nat.le_of_ble_eq_true rfl, Nat.le_of_ble_eq_true rfl⟩) (preVR hK hN hP [1, 2] rfl 1 rfl rfl []) rfl rfl hl.1 rfl (lv_room (Nat.le_of_ble_eq_true rfl)) dX7_count_165 ⟨Nat.le_refl _, Nat.le_refl _⟩) hP hS hA (fun H locs hP hS => ?_)
      exact hret (nI (cntF (fun e => !fitE s e) (nE s))) H locs _ ls (by rw [ctR, hasN_n (by omega) (by omega), if_pos rfl, cl_n (by omega)]; rfl) rfl hS dX7_count_168
    · skip
      refine lv_tableIn (off := 168) (tgt := 169) hx hb dX7_count_1 (by decide) (by decide) rfl (by decide) ?_
      refine lv_aload_n hx hb dX7_count_169 rfl (lv_at hl 0 rfl) ?_
      refine va_get (D := dg) (ci := 7) (v := .ref xl) (C := RX7) (T := TX7) (N := 7) hx hb hts in7 hown hK hP 0 rfl rfl 0 (by decide) f12 (fun _ h9 => h9) rfl dX7_count_170 ?_
      refine call_x (va_runV (As := []) (rest := []) ⟨hx, hb, hml, hown, hts⟩ (kX1_firstBrokenLink ln dg tq (h0 := xl) (h1 := xlc) (c := c) (s := s) (hR := (by omega)) (hW := (by omega)) H.size) (cwV 0 hts gX7_count_X1_firstBrokenLink rfl rfl rfl hdX1_firstBrokenLink ⟨Nat.le_of_ble_eq_true rfl, Nat.le_of_ble_eq_true rfl⟩) (preVR hK hN hP [1, 2] rfl 1 rfl rfl []) rfl rfl hl.1 rfl (lv_room (Nat.le_of_ble_eq_true rfl)) dX7_count_173 ⟨Nat.le_refl _, Nat.le_refl _⟩) hP hS hA (fun H locs hP hS => ?_)
      exact hret (fstF (fun e => !fitE s e) 0 (nE s)) H locs _ ls (by rw [ctR, hasN_n (by omega) (by omega), if_pos rfl, cl_n (by omega)]; rfl) rfl hS dX7_count_176
    · skip
      refine lv_tableIn (off := 176) (tgt := 177) hx hb dX7_count_1 (by decide) (by decide) rfl (by decide) ?_
      refine lv_aload_n hx hb dX7_count_177 rfl (lv_at hl 0 rfl) ?_
      refine va_get (D := dg) (ci := 7) (v := .ref xl) (C := RX7) (T := TX7) (N := 7) hx hb hts in7 hown hK hP 0 rfl rfl 0 (by decide) f12 (fun _ h9 => h9) rfl dX7_count_178 ?_
      refine call_x (va_runV (As := []) (rest := []) ⟨hx, hb, hml, hown, hts⟩ (kX1_leaves ln dg tq (h0 := xl) (h1 := xlc) (c := c) (s := s) (hR := (by omega)) (hW := (by omega)) H.size) (cwV 0 hts gX7_count_X1_leaves rfl rfl rfl hdX1_leaves ⟨Nat.le_of_ble_eq_true rfl, Nat.le_of_ble_eq_true rfl⟩) (preVR hK hN hP [1, 2] rfl 1 rfl rfl []) rfl rfl hl.1 rfl (lv_room (Nat.le_of_ble_eq_true rfl)) dX7_count_181 ⟨Nat.le_refl _, Nat.le_refl _⟩) hP hS hA (fun H locs hP hS => ?_)
      exact hret (nI (cntF (leafB s) (nE s))) H locs _ ls (by rw [ctR, hasN_n (by omega) (by omega), if_pos rfl, cl_n (by omega)]; rfl) rfl hS dX7_count_184
    · skip
      refine lv_tableIn (off := 184) (tgt := 185) hx hb dX7_count_1 (by decide) (by decide) rfl (by decide) ?_
      refine lv_aload_n hx hb dX7_count_185 rfl (lv_at hl 0 rfl) ?_
      refine va_get (D := dg) (ci := 7) (v := .ref xl) (C := RX7) (T := TX7) (N := 7) hx hb hts in7 hown hK hP 0 rfl rfl 0 (by decide) f12 (fun _ h9 => h9) rfl dX7_count_186 ?_
      refine call_x (va_runV (As := []) (rest := []) ⟨hx, hb, hml, hown, hts⟩ (kX1_snapshots ln dg tq (h0 := xl) (h1 := xlc) (c := c) (s := s) (hF := hF) H.size) (cwV 0 hts gX7_count_X1_snapshots rfl rfl rfl hdX1_snapshots ⟨Nat.le_of_ble_eq_true rfl, Nat.le_of_ble_eq_true rfl⟩) (preVR hK hN hP [1, 2] rfl 1 rfl rfl []) rfl rfl hl.1 rfl (lv_room (Nat.le_of_ble_eq_true rfl)) dX7_count_189 ⟨Nat.le_refl _, Nat.le_refl _⟩) hP hS hA (fun H locs hP hS => ?_)
      exact hret (s 1443 + s 1444) H locs _ ls (by rw [ctR, hasN_n (by omega) (by omega), if_pos rfl, cl_n (by omega)]; rfl) rfl hS dX7_count_192
    · skip
      refine lv_tableIn (off := 192) (tgt := 193) hx hb dX7_count_1 (by decide) (by decide) rfl (by decide) ?_
      refine lv_aload_n hx hb dX7_count_193 rfl (lv_at hl 0 rfl) ?_
      refine va_get (D := dg) (ci := 7) (v := .ref xh) (C := RX7) (T := TX7) (N := 7) hx hb hts in7 hown hK hP 0 rfl rfl 1 (by decide) f19 (fun _ h9 => h9) rfl dX7_count_194 ?_
      refine call_x (va_runV (As := []) (rest := []) ⟨hx, hb, hml, hown, hts⟩ (kX0_states ln dg tq (b0 := xh) (b1 := xhc) (st := st) (nx := nx) (hc := hc) H.size) (cwV 0 hts gX7_count_X0_states rfl rfl rfl hdX0_states ⟨Nat.le_of_ble_eq_true rfl, Nat.le_of_ble_eq_true rfl⟩) (preVR hK hN hP [3, 4] rfl 3 rfl rfl []) rfl rfl hl.1 rfl (lv_room (Nat.le_of_ble_eq_true rfl)) dX7_count_197 ⟨Nat.le_refl _, Nat.le_refl _⟩) hP hS hA (fun H locs hP hS => ?_)
      exact hret (nI st) H locs _ ls (by rw [ctR, hasN_n (by omega) (by omega), if_pos rfl, cl_n (by omega)]; rfl) rfl hS dX7_count_200
    · skip
      refine lv_tableIn (off := 200) (tgt := 201) hx hb dX7_count_1 (by decide) (by decide) rfl (by decide) ?_
      refine lv_aload_n hx hb dX7_count_201 rfl (lv_at hl 0 rfl) ?_
      refine va_get (D := dg) (ci := 7) (v := .ref xt) (C := RX7) (T := TX7) (N := 7) hx hb hts in7 hown hK hP 0 rfl rfl 2 (by decide) f26 (fun _ h9 => h9) rfl dX7_count_202 ?_
      refine call_x (va_runV (As := []) (rest := []) ⟨hx, hb, hml, hown, hts⟩ (kX6_length ln dg tq (t0 := xt) (t1 := xtc) (tl := tl) (tx := tx) H.size) (cwV 0 hts gX7_count_X6_length rfl rfl rfl hdX6_length ⟨Nat.le_of_ble_eq_true rfl, Nat.le_of_ble_eq_true rfl⟩) (preVR hK hN hP [5, 6] rfl 5 rfl rfl []) rfl rfl hl.1 rfl (lv_room (Nat.le_of_ble_eq_true rfl)) dX7_count_205 ⟨Nat.le_refl _, Nat.le_refl _⟩) hP hS hA (fun H locs hP hS => ?_)
      exact hret (nI tl) H locs _ ls (by rw [ctR, hasN_n (by omega) (by omega), if_pos rfl, cl_n (by omega)]; rfl) rfl hS dX7_count_208
  · refine lv_tableOut (tgt := 209) hx hb dX7_count_1 (by omega) (by decide) ?_
    refine lv_ldc hx hb hown k65 dX7_count_209 ?_
    exact hret (-100001) H locs _ ls (by rw [ctR, if_neg (show ¬ hasN x 15 = true from fun z => hsw (of_decide_eq_true z))]) rfl hS dX7_count_211
theorem hdX7_entry : yX7_entry.cls = RX7 ∧ yX7_entry.cls ≠ "java/lang/invoke/MethodHandle" ∧ yX7_entry.cls ≠ "java/lang/invoke/VarHandle" ∧ (parseMethodDescriptor yX7_entry.desc).map (fun d => d.parameters.length) = some 2 := by decide +kernel
set_option maxHeartbeats 4000000 in
set_option maxRecDepth 100000 in
theorem kX7_entry (ln : Launch) (dg : va_G) (tq : ClassId × ClassId) (x0 xl xh xt xp xo xu xw : Nat)(xlc : Nat) (c : Row) (s : Row) (hF : FS s c)(xus : Nat) (uf : Row) (x w : Int32) : MW ln yX7_entry wsX7_entry (rmm 4 91) dg tq [.ref x0, .int x, .int w] [(x0, .inr (7, [.ref xl, .ref xh, .ref xt, .ref xp, .ref xo, .ref xu, .ref xw])), (xl, .inr (1, [.ref xlc])), (xlc, .inl (tq.1, 1473, .inl c)), (xu, .inr (5, [.ref xus])), (xus, .inl (tq.1, 6, .inl uf))] (fun (r : Int32) (u : Row) => r = (etR s x w)) (fun u => [(x0, .inr (7, [.ref xl, .ref xh, .ref xt, .ref xp, .ref xo, .ref xu, .ref xw])), (xl, .inr (1, [.ref xlc])), (xlc, .inl (tq.1, 1473, .inl c)), (xu, .inr (5, [.ref xus])), (xus, .inl (tq.1, 6, .inl u))]) := by
  refine MW.enter cX7_entry 3 .int (by decide) rfl rfl (Nat.le_of_ble_eq_true rfl) ?_
  intro pP eE sS mM aA bB mT cC QQ AA hA hAT hret H locs hP hD hS ls hl
  obtain ⟨hx, hb, hml, hown, hts, hK, hN⟩ := hAT
  have hown : sS.vm.findClass RX7 = some mM.cls := hown
  have hl : lv_has ls 3 [(0, .ref x0), (1, .int x), (2, .int w)] := hl
  have in7 : ∀ w ∈ u_ws RX7 TX7 7, w ∈ wsX7_entry := (fun _ h9 => List.mem_cons_of_mem _ (List.mem_append_left _ (List.mem_append_left _ (List.mem_append_right _ h9))))
  have f12 := hts (.fieldLink RX7 12 "OrphanChain" "ledger" "LOrphanChain$Ledger;") (List.mem_of_getElem? (i := 1) rfl)
  have k65 := hts (.constant RX7 65 (-100001)) (List.mem_of_getElem? (i := 2) rfl)
  obtain ⟨hR, hW, hs0, hs1⟩ := id hF
  have hn60 := hW.n60
  have hb10 := hW.b10
  have hs8 := hW.s8
  have hhn := hW.hn
  have hcl := cntF_le (loudB s) (nB s)
  refine lv_aload_n hx hb dX7_entry_0 rfl (lv_at hl 0 rfl) ?_
  refine va_get (D := dg) (ci := 7) (v := .ref xl) (C := RX7) (T := TX7) (N := 7) hx hb hts in7 hown hK hP 0 rfl rfl 0 (by decide) f12 (fun _ h9 => h9) rfl dX7_entry_1 ?_
  refine lv_iload_n hx hb dX7_entry_4 rfl (lv_at hl 1 rfl) ?_
  refine call_x (va_runV (As := [.int x]) (rest := []) ⟨hx, hb, hml, hown, hts⟩ (kX1_hasEntry ln dg tq (h0 := xl) (h1 := xlc) (c := c) (s := s) (hR := (by omega)) (hW := (by omega)) (x := x) H.size) (cwV 1 hts gX7_entry_X1_hasEntry rfl rfl rfl hdX1_hasEntry ⟨Nat.le_of_ble_eq_true rfl, Nat.le_of_ble_eq_true rfl⟩) (preVR hK hN hP [1, 2] rfl 1 rfl rfl [.int x]) rfl rfl hl.1 rfl (lv_room (Nat.le_of_ble_eq_true rfl)) dX7_entry_5 ⟨Nat.le_refl _, Nat.le_refl _⟩) hP hS hA (fun H locs hP hS => ?_)
  refine r_if_ne_b (tgt := 14) hx hb dX7_entry_8 (by decide) (fun c8 => ?_) (fun c8 => ?_)
  · skip
    obtain ⟨ek_, hek, rfl⟩ := hasN_t c8
    refine lv_iload_n hx hb dX7_entry_14 rfl (lv_at hl 2 rfl) ?_
    by_cases hsw : 0 ≤ w.toInt ∧ w.toInt < ((11 : Nat) : Int)
    · obtain ⟨jsw, hjsw, rfl⟩ := tI_natlt hsw.1 hsw.2
      rcases (show jsw = 0 ∨ jsw = 1 ∨ jsw = 2 ∨ jsw = 3 ∨ jsw = 4 ∨ jsw = 5 ∨ jsw = 6 ∨ jsw = 7 ∨ jsw = 8 ∨ jsw = 9 ∨ jsw = 10 by omega) with rfl | rfl | rfl | rfl | rfl | rfl | rfl | rfl | rfl | rfl | rfl
      · skip
        refine lv_tableIn (off := 57) (tgt := 72) hx hb dX7_entry_15 (by decide) (by decide) rfl (by decide) ?_
        refine lv_aload_n hx hb dX7_entry_72 rfl (lv_at hl 0 rfl) ?_
        refine va_get (D := dg) (ci := 7) (v := .ref xl) (C := RX7) (T := TX7) (N := 7) hx hb hts in7 hown hK hP 0 rfl rfl 0 (by decide) f12 (fun _ h9 => h9) rfl dX7_entry_73 ?_
        refine lv_iload_n hx hb dX7_entry_76 rfl (lv_at hl 1 rfl) ?_
        refine lv_iconst (v := (nI 0)) hx hb dX7_entry_77 (by decide) ?_
        refine call_x (va_runV (As := [.int (nI ek_), .int (nI 0)]) (rest := []) ⟨hx, hb, hml, hown, hts⟩ (kX1_ofEntry ln dg tq (h0 := xl) (h1 := xlc) (c := c) (e := ek_) (f := 0) (he := (by omega)) (hf := (by omega)) H.size) (cwV 2 hts gX7_entry_X1_ofEntry rfl rfl rfl hdX1_ofEntry ⟨Nat.le_of_ble_eq_true rfl, Nat.le_of_ble_eq_true rfl⟩) (preVR hK hN hP [1, 2] rfl 1 rfl rfl [.int (nI ek_), .int (nI 0)]) rfl rfl hl.1 rfl (lv_room (Nat.le_of_ble_eq_true rfl)) dX7_entry_78 ⟨Nat.le_refl _, Nat.le_refl _⟩) hP hS hA (fun H locs hP hS => ?_)
        refine r_top (show (c (5 + ek_ * 7 + 0)) = (me s ek_ 1) from hR.xkd (by omega)) ?_
        exact hret (me s ek_ 1) (uf) H locs _ ls (by unfold etR; rw [if_pos ⟨hasN_n (by omega) (by omega), hasN_n (by omega) (by omega)⟩, cl_n (by omega), cl_n (by omega)]; exact rfl) rfl (hP.sub [0, 1, 2, 3, 4] rfl) (hD.sub [0, 1, 2, 3, 4] (by decide) rfl) hS dX7_entry_81
      · skip
        refine lv_tableIn (off := 67) (tgt := 82) hx hb dX7_entry_15 (by decide) (by decide) rfl (by decide) ?_
        refine lv_aload_n hx hb dX7_entry_82 rfl (lv_at hl 0 rfl) ?_
        refine va_get (D := dg) (ci := 7) (v := .ref xl) (C := RX7) (T := TX7) (N := 7) hx hb hts in7 hown hK hP 0 rfl rfl 0 (by decide) f12 (fun _ h9 => h9) rfl dX7_entry_83 ?_
        refine lv_iload_n hx hb dX7_entry_86 rfl (lv_at hl 1 rfl) ?_
        refine lv_iconst (v := (nI 1)) hx hb dX7_entry_87 (by decide) ?_
        refine call_x (va_runV (As := [.int (nI ek_), .int (nI 1)]) (rest := []) ⟨hx, hb, hml, hown, hts⟩ (kX1_ofEntry ln dg tq (h0 := xl) (h1 := xlc) (c := c) (e := ek_) (f := 1) (he := (by omega)) (hf := (by omega)) H.size) (cwV 2 hts gX7_entry_X1_ofEntry rfl rfl rfl hdX1_ofEntry ⟨Nat.le_of_ble_eq_true rfl, Nat.le_of_ble_eq_true rfl⟩) (preVR hK hN hP [1, 2] rfl 1 rfl rfl [.int (nI ek_), .int (nI 1)]) rfl rfl hl.1 rfl (lv_room (Nat.le_of_ble_eq_true rfl)) dX7_entry_88 ⟨Nat.le_refl _, Nat.le_refl _⟩) hP hS hA (fun H locs hP hS => ?_)
        refine r_top (show (c (5 + ek_ * 7 + 1)) = (me s ek_ 2) from hR.xa1 (by omega)) ?_
        exact hret (me s ek_ 2) (uf) H locs _ ls (by unfold etR; rw [if_pos ⟨hasN_n (by omega) (by omega), hasN_n (by omega) (by omega)⟩, cl_n (by omega), cl_n (by omega)]; exact rfl) rfl (hP.sub [0, 1, 2, 3, 4] rfl) (hD.sub [0, 1, 2, 3, 4] (by decide) rfl) hS dX7_entry_91
      · skip
        refine lv_tableIn (off := 77) (tgt := 92) hx hb dX7_entry_15 (by decide) (by decide) rfl (by decide) ?_
        refine lv_aload_n hx hb dX7_entry_92 rfl (lv_at hl 0 rfl) ?_
        refine va_get (D := dg) (ci := 7) (v := .ref xl) (C := RX7) (T := TX7) (N := 7) hx hb hts in7 hown hK hP 0 rfl rfl 0 (by decide) f12 (fun _ h9 => h9) rfl dX7_entry_93 ?_
        refine lv_iload_n hx hb dX7_entry_96 rfl (lv_at hl 1 rfl) ?_
        refine lv_iconst (v := (nI 2)) hx hb dX7_entry_97 (by decide) ?_
        refine call_x (va_runV (As := [.int (nI ek_), .int (nI 2)]) (rest := []) ⟨hx, hb, hml, hown, hts⟩ (kX1_ofEntry ln dg tq (h0 := xl) (h1 := xlc) (c := c) (e := ek_) (f := 2) (he := (by omega)) (hf := (by omega)) H.size) (cwV 2 hts gX7_entry_X1_ofEntry rfl rfl rfl hdX1_ofEntry ⟨Nat.le_of_ble_eq_true rfl, Nat.le_of_ble_eq_true rfl⟩) (preVR hK hN hP [1, 2] rfl 1 rfl rfl [.int (nI ek_), .int (nI 2)]) rfl rfl hl.1 rfl (lv_room (Nat.le_of_ble_eq_true rfl)) dX7_entry_98 ⟨Nat.le_refl _, Nat.le_refl _⟩) hP hS hA (fun H locs hP hS => ?_)
        refine r_top (show (c (5 + ek_ * 7 + 2)) = (me s ek_ 3) from hR.xa2 (by omega)) ?_
        exact hret (me s ek_ 3) (uf) H locs _ ls (by unfold etR; rw [if_pos ⟨hasN_n (by omega) (by omega), hasN_n (by omega) (by omega)⟩, cl_n (by omega), cl_n (by omega)]; exact rfl) rfl (hP.sub [0, 1, 2, 3, 4] rfl) (hD.sub [0, 1, 2, 3, 4] (by decide) rfl) hS dX7_entry_101
      · skip
        refine lv_tableIn (off := 87) (tgt := 102) hx hb dX7_entry_15 (by decide) (by decide) rfl (by decide) ?_
        refine lv_aload_n hx hb dX7_entry_102 rfl (lv_at hl 0 rfl) ?_
        refine va_get (D := dg) (ci := 7) (v := .ref xl) (C := RX7) (T := TX7) (N := 7) hx hb hts in7 hown hK hP 0 rfl rfl 0 (by decide) f12 (fun _ h9 => h9) rfl dX7_entry_103 ?_
        refine lv_iload_n hx hb dX7_entry_106 rfl (lv_at hl 1 rfl) ?_
        refine lv_iconst (v := (nI 3)) hx hb dX7_entry_107 (by decide) ?_
        refine call_x (va_runV (As := [.int (nI ek_), .int (nI 3)]) (rest := []) ⟨hx, hb, hml, hown, hts⟩ (kX1_ofEntry ln dg tq (h0 := xl) (h1 := xlc) (c := c) (e := ek_) (f := 3) (he := (by omega)) (hf := (by omega)) H.size) (cwV 2 hts gX7_entry_X1_ofEntry rfl rfl rfl hdX1_ofEntry ⟨Nat.le_of_ble_eq_true rfl, Nat.le_of_ble_eq_true rfl⟩) (preVR hK hN hP [1, 2] rfl 1 rfl rfl [.int (nI ek_), .int (nI 3)]) rfl rfl hl.1 rfl (lv_room (Nat.le_of_ble_eq_true rfl)) dX7_entry_108 ⟨Nat.le_refl _, Nat.le_refl _⟩) hP hS hA (fun H locs hP hS => ?_)
        refine r_top (show (c (5 + ek_ * 7 + 3)) = (me s ek_ 4) from hR.xam (by omega)) ?_
        exact hret (me s ek_ 4) (uf) H locs _ ls (by unfold etR; rw [if_pos ⟨hasN_n (by omega) (by omega), hasN_n (by omega) (by omega)⟩, cl_n (by omega), cl_n (by omega)]; exact rfl) rfl (hP.sub [0, 1, 2, 3, 4] rfl) (hD.sub [0, 1, 2, 3, 4] (by decide) rfl) hS dX7_entry_111
      · skip
        refine lv_tableIn (off := 97) (tgt := 112) hx hb dX7_entry_15 (by decide) (by decide) rfl (by decide) ?_
        refine lv_aload_n hx hb dX7_entry_112 rfl (lv_at hl 0 rfl) ?_
        refine va_get (D := dg) (ci := 7) (v := .ref xl) (C := RX7) (T := TX7) (N := 7) hx hb hts in7 hown hK hP 0 rfl rfl 0 (by decide) f12 (fun _ h9 => h9) rfl dX7_entry_113 ?_
        refine lv_iload_n hx hb dX7_entry_116 rfl (lv_at hl 1 rfl) ?_
        refine lv_iconst (v := (nI 4)) hx hb dX7_entry_117 (by decide) ?_
        refine call_x (va_runV (As := [.int (nI ek_), .int (nI 4)]) (rest := []) ⟨hx, hb, hml, hown, hts⟩ (kX1_ofEntry ln dg tq (h0 := xl) (h1 := xlc) (c := c) (e := ek_) (f := 4) (he := (by omega)) (hf := (by omega)) H.size) (cwV 2 hts gX7_entry_X1_ofEntry rfl rfl rfl hdX1_ofEntry ⟨Nat.le_of_ble_eq_true rfl, Nat.le_of_ble_eq_true rfl⟩) (preVR hK hN hP [1, 2] rfl 1 rfl rfl [.int (nI ek_), .int (nI 4)]) rfl rfl hl.1 rfl (lv_room (Nat.le_of_ble_eq_true rfl)) dX7_entry_118 ⟨Nat.le_refl _, Nat.le_refl _⟩) hP hS hA (fun H locs hP hS => ?_)
        refine r_top (show (c (5 + ek_ * 7 + 4)) = (me s ek_ 0) from hR.p (by omega)) ?_
        exact hret (me s ek_ 0) (uf) H locs _ ls (by unfold etR; rw [if_pos ⟨hasN_n (by omega) (by omega), hasN_n (by omega) (by omega)⟩, cl_n (by omega), cl_n (by omega)]; exact rfl) rfl (hP.sub [0, 1, 2, 3, 4] rfl) (hD.sub [0, 1, 2, 3, 4] (by decide) rfl) hS dX7_entry_121
      · skip
        refine lv_tableIn (off := 107) (tgt := 122) hx hb dX7_entry_15 (by decide) (by decide) rfl (by decide) ?_
        refine lv_aload_n hx hb dX7_entry_122 rfl (lv_at hl 0 rfl) ?_
        refine va_get (D := dg) (ci := 7) (v := .ref xl) (C := RX7) (T := TX7) (N := 7) hx hb hts in7 hown hK hP 0 rfl rfl 0 (by decide) f12 (fun _ h9 => h9) rfl dX7_entry_123 ?_
        refine lv_iload_n hx hb dX7_entry_126 rfl (lv_at hl 1 rfl) ?_
        refine lv_iconst (v := (nI 5)) hx hb dX7_entry_127 (by decide) ?_
        refine call_x (va_runV (As := [.int (nI ek_), .int (nI 5)]) (rest := []) ⟨hx, hb, hml, hown, hts⟩ (kX1_ofEntry ln dg tq (h0 := xl) (h1 := xlc) (c := c) (e := ek_) (f := 5) (he := (by omega)) (hf := (by omega)) H.size) (cwV 2 hts gX7_entry_X1_ofEntry rfl rfl rfl hdX1_ofEntry ⟨Nat.le_of_ble_eq_true rfl, Nat.le_of_ble_eq_true rfl⟩) (preVR hK hN hP [1, 2] rfl 1 rfl rfl [.int (nI ek_), .int (nI 5)]) rfl rfl hl.1 rfl (lv_room (Nat.le_of_ble_eq_true rfl)) dX7_entry_128 ⟨Nat.le_refl _, Nat.le_refl _⟩) hP hS hA (fun H locs hP hS => ?_)
        refine r_top (show (c (5 + ek_ * 7 + 5)) = (me s ek_ 5) from hR.l (by omega)) ?_
        exact hret (me s ek_ 5) (uf) H locs _ ls (by unfold etR; rw [if_pos ⟨hasN_n (by omega) (by omega), hasN_n (by omega) (by omega)⟩, cl_n (by omega), cl_n (by omega)]; exact rfl) rfl (hP.sub [0, 1, 2, 3, 4] rfl) (hD.sub [0, 1, 2, 3, 4] (by decide) rfl) hS dX7_entry_131
      · skip
        refine lv_tableIn (off := 117) (tgt := 132) hx hb dX7_entry_15 (by decide) (by decide) rfl (by decide) ?_
        refine lv_aload_n hx hb dX7_entry_132 rfl (lv_at hl 0 rfl) ?_
        refine va_get (D := dg) (ci := 7) (v := .ref xl) (C := RX7) (T := TX7) (N := 7) hx hb hts in7 hown hK hP 0 rfl rfl 0 (by decide) f12 (fun _ h9 => h9) rfl dX7_entry_133 ?_
        refine lv_iload_n hx hb dX7_entry_136 rfl (lv_at hl 1 rfl) ?_
        refine call_x (va_runV (As := [.int (nI ek_)]) (rest := []) ⟨hx, hb, hml, hown, hts⟩ (kX1_fits ln dg tq (h0 := xl) (h1 := xlc) (c := c) (s := s) (hR := (by omega)) (hW := (by omega)) (e := ek_) (he := (by omega)) H.size) (cwV 1 hts gX7_entry_X1_fits rfl rfl rfl hdX1_fits ⟨Nat.le_of_ble_eq_true rfl, Nat.le_of_ble_eq_true rfl⟩) (preVR hK hN hP [1, 2] rfl 1 rfl rfl [.int (nI ek_)]) rfl rfl hl.1 rfl (lv_room (Nat.le_of_ble_eq_true rfl)) dX7_entry_137 ⟨Nat.le_refl _, Nat.le_refl _⟩) hP hS hA (fun H locs hP hS => ?_)
        refine r_if_eq_b (tgt := 147) hx hb dX7_entry_140 (by decide) (fun c140 => ?_) (fun c140 => ?_)
        · skip
          refine lv_iconst (v := (nI 0)) hx hb dX7_entry_147 (by decide) ?_
          exact hret (nI 0) (uf) H locs _ ls (by unfold etR; rw [if_pos ⟨hasN_n (by omega) (by omega), hasN_n (by omega) (by omega)⟩, cl_n (by omega), cl_n (by omega)]; exact (by rw [etN, c140]; rfl)) rfl (hP.sub [0, 1, 2, 3, 4] rfl) (hD.sub [0, 1, 2, 3, 4] (by decide) rfl) hS dX7_entry_148
        · skip
          refine lv_iconst (v := (nI 1)) hx hb dX7_entry_143 (by decide) ?_
          refine lv_goto (tgt := 148) hx hb dX7_entry_144 (by decide) ?_
          exact hret (nI 1) (uf) H locs _ ls (by unfold etR; rw [if_pos ⟨hasN_n (by omega) (by omega), hasN_n (by omega) (by omega)⟩, cl_n (by omega), cl_n (by omega)]; exact (by rw [etN, c140]; rfl)) rfl (hP.sub [0, 1, 2, 3, 4] rfl) (hD.sub [0, 1, 2, 3, 4] (by decide) rfl) hS dX7_entry_148
      · skip
        refine lv_tableIn (off := 134) (tgt := 149) hx hb dX7_entry_15 (by decide) (by decide) rfl (by decide) ?_
        refine lv_aload_n hx hb dX7_entry_149 rfl (lv_at hl 0 rfl) ?_
        refine va_get (D := dg) (ci := 7) (v := .ref xl) (C := RX7) (T := TX7) (N := 7) hx hb hts in7 hown hK hP 0 rfl rfl 0 (by decide) f12 (fun _ h9 => h9) rfl dX7_entry_150 ?_
        refine lv_iload_n hx hb dX7_entry_153 rfl (lv_at hl 1 rfl) ?_
        refine lv_aload_n hx hb dX7_entry_154 rfl (lv_at hl 0 rfl) ?_
        refine va_get (D := dg) (ci := 7) (v := .ref xl) (C := RX7) (T := TX7) (N := 7) hx hb hts in7 hown hK hP 0 rfl rfl 0 (by decide) f12 (fun _ h9 => h9) rfl dX7_entry_155 ?_
        refine lv_iconst (v := (nI 1)) hx hb dX7_entry_158 (by decide) ?_
        refine call_x (va_runV (As := [.int (nI 1)]) (rest := [.int (nI ek_), .ref xl]) ⟨hx, hb, hml, hown, hts⟩ (kX1_number ln dg tq (h0 := xl) (h1 := xlc) (c := c) (k := 1) (hk := (by omega)) H.size) (cwV 1 hts gX7_entry_X1_number rfl rfl rfl hdX1_number ⟨Nat.le_of_ble_eq_true rfl, Nat.le_of_ble_eq_true rfl⟩) (preVR hK hN hP [1, 2] rfl 1 rfl rfl [.int (nI 1)]) rfl rfl hl.1 rfl (lv_room (Nat.le_of_ble_eq_true rfl)) dX7_entry_159 ⟨Nat.le_refl _, Nat.le_refl _⟩) hP hS hA (fun H locs hP hS => ?_)
        refine r_top (show (c 1) = (nI (hE s)) from (hR.hh hW)) ?_
        refine call_x (va_runV (As := [.int (nI ek_), .int (nI (hE s))]) (rest := []) ⟨hx, hb, hml, hown, hts⟩ (kX1_isOnPath ln dg tq (h0 := xl) (h1 := xlc) (c := c) (s := s) (hR := (by omega)) (hW := (by omega)) (x := ek_) (y := hE s) (hx := (by omega)) (hy := (by omega)) H.size) (cwV 2 hts gX7_entry_X1_isOnPath rfl rfl rfl hdX1_isOnPath ⟨Nat.le_of_ble_eq_true rfl, Nat.le_of_ble_eq_true rfl⟩) (preVR hK hN hP [1, 2] rfl 1 rfl rfl [.int (nI ek_), .int (nI (hE s))]) rfl rfl hl.1 rfl (lv_room (Nat.le_of_ble_eq_true rfl)) dX7_entry_162 ⟨Nat.le_refl _, Nat.le_refl _⟩) hP hS hA (fun H locs hP hS => ?_)
        refine r_if_eq_b (tgt := 172) hx hb dX7_entry_165 (by decide) (fun c165 => ?_) (fun c165 => ?_)
        · skip
          refine lv_iconst (v := (nI 0)) hx hb dX7_entry_172 (by decide) ?_
          exact hret (nI 0) (uf) H locs _ ls (by unfold etR; rw [if_pos ⟨hasN_n (by omega) (by omega), hasN_n (by omega) (by omega)⟩, cl_n (by omega), cl_n (by omega)]; exact (by rw [etN, c165]; rfl)) rfl (hP.sub [0, 1, 2, 3, 4] rfl) (hD.sub [0, 1, 2, 3, 4] (by decide) rfl) hS dX7_entry_173
        · skip
          refine lv_iconst (v := (nI 1)) hx hb dX7_entry_168 (by decide) ?_
          refine lv_goto (tgt := 173) hx hb dX7_entry_169 (by decide) ?_
          exact hret (nI 1) (uf) H locs _ ls (by unfold etR; rw [if_pos ⟨hasN_n (by omega) (by omega), hasN_n (by omega) (by omega)⟩, cl_n (by omega), cl_n (by omega)]; exact (by rw [etN, c165]; rfl)) rfl (hP.sub [0, 1, 2, 3, 4] rfl) (hD.sub [0, 1, 2, 3, 4] (by decide) rfl) hS dX7_entry_173
      · skip
        refine lv_tableIn (off := 159) (tgt := 174) hx hb dX7_entry_15 (by decide) (by decide) rfl (by decide) ?_
        refine lv_aload_n hx hb dX7_entry_174 rfl (lv_at hl 0 rfl) ?_
        refine va_get (D := dg) (ci := 7) (v := .ref xl) (C := RX7) (T := TX7) (N := 7) hx hb hts in7 hown hK hP 0 rfl rfl 0 (by decide) f12 (fun _ h9 => h9) rfl dX7_entry_175 ?_
        refine lv_iload_n hx hb dX7_entry_178 rfl (lv_at hl 1 rfl) ?_
        refine lv_bipush (v := (nI 6)) hx hb dX7_entry_179 (by decide) ?_
        refine call_x (va_runV (As := [.int (nI ek_), .int (nI 6)]) (rest := []) ⟨hx, hb, hml, hown, hts⟩ (kX1_ofEntry ln dg tq (h0 := xl) (h1 := xlc) (c := c) (e := ek_) (f := 6) (he := (by omega)) (hf := (by omega)) H.size) (cwV 2 hts gX7_entry_X1_ofEntry rfl rfl rfl hdX1_ofEntry ⟨Nat.le_of_ble_eq_true rfl, Nat.le_of_ble_eq_true rfl⟩) (preVR hK hN hP [1, 2] rfl 1 rfl rfl [.int (nI ek_), .int (nI 6)]) rfl rfl hl.1 rfl (lv_room (Nat.le_of_ble_eq_true rfl)) dX7_entry_181 ⟨Nat.le_refl _, Nat.le_refl _⟩) hP hS hA (fun H locs hP hS => ?_)
        refine r_top (show (c (5 + ek_ * 7 + 6)) = (me s ek_ 6) from hR.o (by omega)) ?_
        exact hret (me s ek_ 6) (uf) H locs _ ls (by unfold etR; rw [if_pos ⟨hasN_n (by omega) (by omega), hasN_n (by omega) (by omega)⟩, cl_n (by omega), cl_n (by omega)]; exact rfl) rfl (hP.sub [0, 1, 2, 3, 4] rfl) (hD.sub [0, 1, 2, 3, 4] (by decide) rfl) hS dX7_entry_184
      · skip
        refine lv_tableIn (off := 170) (tgt := 185) hx hb dX7_entry_15 (by decide) (by decide) rfl (by decide) ?_
        refine lv_aload_n hx hb dX7_entry_185 rfl (lv_at hl 0 rfl) ?_
        refine va_get (D := dg) (ci := 7) (v := .ref xl) (C := RX7) (T := TX7) (N := 7) hx hb hts in7 hown hK hP 0 rfl rfl 0 (by decide) f12 (fun _ h9 => h9) rfl dX7_entry_186 ?_
        refine lv_iload_n hx hb dX7_entry_189 rfl (lv_at hl 1 rfl) ?_
        refine call_x (va_runV (As := [.int (nI ek_)]) (rest := []) ⟨hx, hb, hml, hown, hts⟩ (kX1_pathLength ln dg tq (h0 := xl) (h1 := xlc) (c := c) (s := s) (hR := (by omega)) (hW := (by omega)) (y := ek_) (hy := (by omega)) H.size) (cwV 1 hts gX7_entry_X1_pathLength rfl rfl rfl hdX1_pathLength ⟨Nat.le_of_ble_eq_true rfl, Nat.le_of_ble_eq_true rfl⟩) (preVR hK hN hP [1, 2] rfl 1 rfl rfl [.int (nI ek_)]) rfl rfl hl.1 rfl (lv_room (Nat.le_of_ble_eq_true rfl)) dX7_entry_190 ⟨Nat.le_refl _, Nat.le_refl _⟩) hP hS hA (fun H locs hP hS => ?_)
        exact hret (nI (dep s ek_)) (uf) H locs _ ls (by unfold etR; rw [if_pos ⟨hasN_n (by omega) (by omega), hasN_n (by omega) (by omega)⟩, cl_n (by omega), cl_n (by omega)]; exact rfl) rfl (hP.sub [0, 1, 2, 3, 4] rfl) (hD.sub [0, 1, 2, 3, 4] (by decide) rfl) hS dX7_entry_193
      · skip
        refine lv_tableIn (off := 179) (tgt := 194) hx hb dX7_entry_15 (by decide) (by decide) rfl (by decide) ?_
        refine lv_aload_n hx hb dX7_entry_194 rfl (lv_at hl 0 rfl) ?_
        refine lv_iload_n hx hb dX7_entry_195 rfl (lv_at hl 1 rfl) ?_
        refine call_w (wr := []) (va_runV (As := [.int (nI ek_)]) (rest := []) ⟨hx, hb, hml, hown, hts⟩ (kX7_totalAt ln dg tq (x0 := x0) (xl := xl) (xh := xh) (xt := xt) (xp := xp) (xo := xo) (xu := xu) (xw := xw) (xlc := xlc) (c := c) (s := s) (hF := hF) (xus := xus) (uf := uf) (e := ek_) (he := (by omega)) H.size) (cwV 1 hts gX7_entry_X7_totalAt rfl rfl rfl hdX7_totalAt ⟨Nat.le_of_ble_eq_true rfl, Nat.le_of_ble_eq_true rfl⟩) (preVB hK hN hP hD [0, 1, 2, 3, 4] rfl rfl rfl 0 rfl rfl [.int (nI ek_)]) rfl rfl hl.1 rfl (lv_room (Nat.le_of_ble_eq_true rfl)) dX7_entry_196 ⟨Nat.le_refl _, Nat.le_refl _⟩) hP hD hS hA [0, 1, 2, 3, 4] [] rfl rfl (by decide) (by decide) (fun r196 u196 H locs hw196 hP hD hS => ?_)
        obtain ⟨uf2196, rfl⟩ : ∃ z, z = u196 := ⟨_, rfl⟩
        have hP : va_P dg vwCl [(x0, .inr (7, [.ref xl, .ref xh, .ref xt, .ref xp, .ref xo, .ref xu, .ref xw])), (xl, .inr (1, [.ref xlc])), (xlc, .inl (tq.1, 1473, .inl c)), (xu, .inr (5, [.ref xus])), (xus, .inl (tq.1, 6, .inl uf2196))] H := hP
        have hD : va_D AA [(x0, .inr (7, [.ref xl, .ref xh, .ref xt, .ref xp, .ref xo, .ref xu, .ref xw])), (xl, .inr (1, [.ref xlc])), (xlc, .inl (tq.1, 1473, .inl c)), (xu, .inr (5, [.ref xus])), (xus, .inl (tq.1, 6, .inl uf2196))] := hD
        subst hw196
        exact hret (totI (bal s ek_) 6) (uf2196) H locs _ ls (by unfold etR; rw [if_pos ⟨hasN_n (by omega) (by omega), hasN_n (by omega) (by omega)⟩, cl_n (by omega), cl_n (by omega)]; rfl) rfl (hP.sub [0, 1, 2, 3, 4] rfl) (hD.sub [0, 1, 2, 3, 4] (by decide) rfl) hS dX7_entry_199
    · refine lv_tableOut (tgt := 200) hx hb dX7_entry_15 (by omega) (by decide) ?_
      refine lv_ldc hx hb hown k65 dX7_entry_200 ?_
      exact hret (-100001) (uf) H locs _ ls (by unfold etR; rw [if_neg (fun z => hsw (of_decide_eq_true z.2))]) rfl (hP.sub [0, 1, 2, 3, 4] rfl) (hD.sub [0, 1, 2, 3, 4] (by decide) rfl) hS dX7_entry_202
  · skip
    refine lv_ldc hx hb hown k65 dX7_entry_11 ?_
    exact hret (-100001) (uf) H locs _ ls (by unfold etR; rw [if_neg (fun z => by rw [c8] at z; cases z.1)]) rfl (hP.sub [0, 1, 2, 3, 4] rfl) (hD.sub [0, 1, 2, 3, 4] (by decide) rfl) hS dX7_entry_13
theorem hdX7_balance : yX7_balance.cls = RX7 ∧ yX7_balance.cls ≠ "java/lang/invoke/MethodHandle" ∧ yX7_balance.cls ≠ "java/lang/invoke/VarHandle" ∧ (parseMethodDescriptor yX7_balance.desc).map (fun d => d.parameters.length) = some 2 := by decide +kernel
set_option maxHeartbeats 4000000 in
set_option maxRecDepth 100000 in
theorem kX7_balance (ln : Launch) (dg : va_G) (tq : ClassId × ClassId) (x0 xl xh xt xp xo xu xw : Nat)(xlc : Nat) (c : Row) (s : Row) (hF : FS s c)(xus : Nat) (uf : Row) (a x : Int32) : MW ln yX7_balance wsX7_balance (rmm 3 70) dg tq [.ref x0, .int a, .int x] [(x0, .inr (7, [.ref xl, .ref xh, .ref xt, .ref xp, .ref xo, .ref xu, .ref xw])), (xl, .inr (1, [.ref xlc])), (xlc, .inl (tq.1, 1473, .inl c)), (xu, .inr (5, [.ref xus])), (xus, .inl (tq.1, 6, .inl uf))] (fun (r : Int32) (u : Row) => r = (baR s a x)) (fun u => [(x0, .inr (7, [.ref xl, .ref xh, .ref xt, .ref xp, .ref xo, .ref xu, .ref xw])), (xl, .inr (1, [.ref xlc])), (xlc, .inl (tq.1, 1473, .inl c)), (xu, .inr (5, [.ref xus])), (xus, .inl (tq.1, 6, .inl u))]) := by
  refine MW.enter cX7_balance 3 .int (by decide) rfl rfl (Nat.le_of_ble_eq_true rfl) ?_
  intro pP eE sS mM aA bB mT cC QQ AA hA hAT hret H locs hP hD hS ls hl
  obtain ⟨hx, hb, hml, hown, hts, hK, hN⟩ := hAT
  have hown : sS.vm.findClass RX7 = some mM.cls := hown
  have hl : lv_has ls 3 [(0, .ref x0), (1, .int a), (2, .int x)] := hl
  have in7 : ∀ w ∈ u_ws RX7 TX7 7, w ∈ wsX7_balance := (fun _ h9 => List.mem_cons_of_mem _ (List.mem_append_left _ (List.mem_append_left _ (List.mem_append_right _ h9))))
  have k65 := hts (.constant RX7 65 (-100001)) (List.mem_of_getElem? (i := 2) rfl)
  have f12 := hts (.fieldLink RX7 12 "OrphanChain" "ledger" "LOrphanChain$Ledger;") (List.mem_of_getElem? (i := 1) rfl)
  have f47 := hts (.fieldLink RX7 47 "OrphanChain" "purse" "LOrphanChain$Purse;") (List.mem_of_getElem? (i := 3) rfl)
  obtain ⟨hR, hW, hs0, hs1⟩ := id hF
  have hn60 := hW.n60
  have hb10 := hW.b10
  have hs8 := hW.s8
  have hhn := hW.hn
  have hcl := cntF_le (loudB s) (nB s)
  refine lv_iload_n hx hb dX7_balance_0 rfl (lv_at hl 1 rfl) ?_
  refine call_x (va_runS (As := [.int a]) (rest := []) ⟨hx, hb, hml, hown, hts⟩ (kX7_isAccount ln dg tq (v := a) H.size) (va_cwS 1 hts gX7_balance_X7_isAccount rfl rfl rfl hdX7_isAccount.2 ⟨Nat.le_of_ble_eq_true rfl, Nat.le_of_ble_eq_true rfl⟩) (preS0 hK hN [.int a]) rfl rfl hl.1 rfl (lv_room (Nat.le_of_ble_eq_true rfl)) dX7_balance_1 ⟨Nat.le_refl _, Nat.le_refl _⟩) hP hS hA (fun H locs hP hS => ?_)
  refine r_if_eq_b (tgt := 18) hx hb dX7_balance_4 (by decide) (fun c4 => ?_) (fun c4 => ?_)
  · skip
    refine lv_ldc hx hb hown k65 dX7_balance_18 ?_
    exact hret (-100001) (uf) H locs _ ls (by unfold baR; rw [if_neg (fun z => by rw [c4] at z; cases z.1)]) rfl (hP.sub [0, 1, 2, 3, 4] rfl) (hD.sub [0, 1, 2, 3, 4] (by decide) rfl) hS dX7_balance_20
  · skip
    refine lv_aload_n hx hb dX7_balance_7 rfl (lv_at hl 0 rfl) ?_
    refine va_get (D := dg) (ci := 7) (v := .ref xl) (C := RX7) (T := TX7) (N := 7) hx hb hts in7 hown hK hP 0 rfl rfl 0 (by decide) f12 (fun _ h9 => h9) rfl dX7_balance_8 ?_
    refine lv_iload_n hx hb dX7_balance_11 rfl (lv_at hl 2 rfl) ?_
    refine call_x (va_runV (As := [.int x]) (rest := []) ⟨hx, hb, hml, hown, hts⟩ (kX1_hasEntry ln dg tq (h0 := xl) (h1 := xlc) (c := c) (s := s) (hR := (by omega)) (hW := (by omega)) (x := x) H.size) (cwV 1 hts gX7_balance_X1_hasEntry rfl rfl rfl hdX1_hasEntry ⟨Nat.le_of_ble_eq_true rfl, Nat.le_of_ble_eq_true rfl⟩) (preVR hK hN hP [1, 2] rfl 1 rfl rfl [.int x]) rfl rfl hl.1 rfl (lv_room (Nat.le_of_ble_eq_true rfl)) dX7_balance_12 ⟨Nat.le_refl _, Nat.le_refl _⟩) hP hS hA (fun H locs hP hS => ?_)
    refine r_if_ne_b (tgt := 21) hx hb dX7_balance_15 (by decide) (fun c15 => ?_) (fun c15 => ?_)
    · skip
      obtain ⟨ak_, ha1, ha2, rfl⟩ := inR_t (by omega) (by omega) c4
      obtain ⟨ek_, hek, rfl⟩ := hasN_t c15
      refine lv_aload_n hx hb dX7_balance_21 rfl (lv_at hl 0 rfl) ?_
      refine va_get (D := dg) (ci := 7) (v := .ref xu) (C := RX7) (T := TX7) (N := 7) hx hb hts in7 hown hK hP 0 rfl rfl 5 (by decide) f47 (fun _ h9 => h9) rfl dX7_balance_22 ?_
      refine lv_aload_n hx hb dX7_balance_25 rfl (lv_at hl 0 rfl) ?_
      refine va_get (D := dg) (ci := 7) (v := .ref xl) (C := RX7) (T := TX7) (N := 7) hx hb hts in7 hown hK hP 0 rfl rfl 0 (by decide) f12 (fun _ h9 => h9) rfl dX7_balance_26 ?_
      refine lv_iload_n hx hb dX7_balance_29 rfl (lv_at hl 2 rfl) ?_
      refine call_v (wr := [(x0, .inr (7, [.ref xl, .ref xh, .ref xt, .ref xp, .ref xo, .ref xu, .ref xw]))]) (va_runV (As := [.ref xl, .int (nI ek_)]) (rest := []) ⟨hx, hb, hml, hown, hts⟩ (kX5_fill ln dg tq (u0 := xu) (u1 := xus) (f := uf) (h0 := xl) (h1 := xlc) (c := c) (s := s) (hR := (by omega)) (hW := (by omega)) (leaf := ek_) (hl0 := (by omega)) H.size) (cwV 2 hts gX7_balance_X5_fill rfl rfl rfl hdX5_fill ⟨Nat.le_of_ble_eq_true rfl, Nat.le_of_ble_eq_true rfl⟩) (preVB hK hN hP hD [3, 4, 1, 2] rfl rfl rfl 3 rfl rfl [.ref xl, .int (nI ek_)]) rfl rfl hl.1 rfl (lv_room (Nat.le_of_ble_eq_true rfl)) dX7_balance_30 ⟨Nat.le_refl _, Nat.le_refl _⟩) hP hD hS hA [3, 4, 1, 2] [0] rfl rfl (by decide) (by decide) (fun u30 H locs hw30 hP hD hS => ?_)
      obtain ⟨g30, rfl⟩ : ∃ z, z = u30 := ⟨_, rfl⟩
      have hP : va_P dg vwCl [(x0, .inr (7, [.ref xl, .ref xh, .ref xt, .ref xp, .ref xo, .ref xu, .ref xw])), (xu, .inr (5, [.ref xus])), (xus, .inl (tq.1, 6, .inl g30)), (xl, .inr (1, [.ref xlc])), (xlc, .inl (tq.1, 1473, .inl c))] H := hP
      have hD : va_D AA [(x0, .inr (7, [.ref xl, .ref xh, .ref xt, .ref xp, .ref xo, .ref xu, .ref xw])), (xu, .inr (5, [.ref xus])), (xus, .inl (tq.1, 6, .inl g30)), (xl, .inr (1, [.ref xlc])), (xlc, .inl (tq.1, 1473, .inl c))] := hD
      refine lv_aload_n hx hb dX7_balance_33 rfl (lv_at hl 0 rfl) ?_
      refine va_get (D := dg) (ci := 7) (v := .ref xu) (C := RX7) (T := TX7) (N := 7) hx hb hts in7 hown hK hP 0 rfl rfl 5 (by decide) f47 (fun _ h9 => h9) rfl dX7_balance_34 ?_
      refine lv_iload_n hx hb dX7_balance_37 rfl (lv_at hl 1 rfl) ?_
      refine call_x (va_runV (As := [.int (nI ak_)]) (rest := []) ⟨hx, hb, hml, hown, hts⟩ (kX5_sum ln dg tq (u0 := xu) (u1 := xus) (f := g30) (a := ak_) (ha := (by omega)) H.size) (cwV 1 hts gX7_balance_X5_sum rfl rfl rfl hdX5_sum ⟨Nat.le_of_ble_eq_true rfl, Nat.le_of_ble_eq_true rfl⟩) (preVR hK hN hP [1, 2] rfl 1 rfl rfl [.int (nI ak_)]) rfl rfl hl.1 rfl (lv_room (Nat.le_of_ble_eq_true rfl)) dX7_balance_38 ⟨Nat.le_refl _, Nat.le_refl _⟩) hP hS hA (fun H locs hP hS => ?_)
      exact hret (g30 ak_) (g30) H locs _ ls (by unfold baR; rw [if_pos ⟨c4, c15⟩, cl_n (by omega), cl_n (by omega)]; exact hw30 _ (by omega)) rfl (hP.sub [0, 3, 4, 1, 2] rfl) (hD.sub [0, 3, 4, 1, 2] (by decide) rfl) hS dX7_balance_41
    · skip
      refine lv_ldc hx hb hown k65 dX7_balance_18 ?_
      exact hret (-100001) (uf) H locs _ ls (by unfold baR; rw [if_neg (fun z => by rw [c15] at z; cases z.2)]) rfl (hP.sub [0, 1, 2, 3, 4] rfl) (hD.sub [0, 1, 2, 3, 4] (by decide) rfl) hS dX7_balance_20
theorem hdX7_onChain : yX7_onChain.cls = RX7 ∧ yX7_onChain.cls ≠ "java/lang/invoke/MethodHandle" ∧ yX7_onChain.cls ≠ "java/lang/invoke/VarHandle" ∧ (parseMethodDescriptor yX7_onChain.desc).map (fun d => d.parameters.length) = some 1 := by decide +kernel
set_option maxHeartbeats 4000000 in
set_option maxRecDepth 100000 in
theorem kX7_onChain (ln : Launch) (dg : va_G) (tq : ClassId × ClassId) (x0 xl xh xt xp xo xu xw : Nat)(xlc : Nat) (c : Row) (s : Row) (hF : FS s c)(xwe : Nat) (wl : Int32) (wf : Row) (x : Int32) : MW ln yX7_onChain wsX7_onChain (rmm 3 68) dg tq [.ref x0, .int x] [(x0, .inr (7, [.ref xl, .ref xh, .ref xt, .ref xp, .ref xo, .ref xu, .ref xw])), (xl, .inr (1, [.ref xlc])), (xlc, .inl (tq.1, 1473, .inl c)), (xw, .inr (3, [.ref xwe, .int wl])), (xwe, .inl (tq.1, 60, .inl wf))] (fun (r : Int32) (u : Int32 × Row) => r = (ocR s x)) (fun u => [(x0, .inr (7, [.ref xl, .ref xh, .ref xt, .ref xp, .ref xo, .ref xu, .ref xw])), (xl, .inr (1, [.ref xlc])), (xlc, .inl (tq.1, 1473, .inl c)), (xw, .inr (3, [.ref xwe, .int u.1])), (xwe, .inl (tq.1, 60, .inl u.2))]) := by
  refine MW.enter cX7_onChain 2 .int (by decide) rfl rfl (Nat.le_of_ble_eq_true rfl) ?_
  intro pP eE sS mM aA bB mT cC QQ AA hA hAT hret H locs hP hD hS ls hl
  obtain ⟨hx, hb, hml, hown, hts, hK, hN⟩ := hAT
  have hown : sS.vm.findClass RX7 = some mM.cls := hown
  have hl : lv_has ls 2 [(0, .ref x0), (1, .int x)] := hl
  have in7 : ∀ w ∈ u_ws RX7 TX7 7, w ∈ wsX7_onChain := (fun _ h9 => List.mem_cons_of_mem _ (List.mem_append_left _ (List.mem_append_left _ (List.mem_append_right _ h9))))
  have f54 := hts (.fieldLink RX7 54 "OrphanChain" "path" "LOrphanChain$Path;") (List.mem_of_getElem? (i := 2) rfl)
  have k65 := hts (.constant RX7 65 (-100001)) (List.mem_of_getElem? (i := 1) rfl)
  obtain ⟨hR, hW, hs0, hs1⟩ := id hF
  have hn60 := hW.n60
  have hb10 := hW.b10
  have hs8 := hW.s8
  have hhn := hW.hn
  have hcl := cntF_le (loudB s) (nB s)
  have hdl := dep_le hW _ hW.hn
  refine lv_iload_n hx hb dX7_onChain_0 rfl (lv_at hl 1 rfl) ?_
  refine r_if_ge (tgt := 7) hx hb rfl dX7_onChain_1 (by decide) (fun c1 => ?_) (fun c1 => ?_)
  · skip
    refine lv_aload_n hx hb dX7_onChain_7 rfl (lv_at hl 0 rfl) ?_
    refine call_v (wr := []) (va_runV (As := []) (rest := []) ⟨hx, hb, hml, hown, hts⟩ (kX7_traceChain ln dg tq (x0 := x0) (xl := xl) (xh := xh) (xt := xt) (xp := xp) (xo := xo) (xu := xu) (xw := xw) (xlc := xlc) (c := c) (s := s) (hF := hF) (xwe := xwe) (wl := wl) (wf := wf) H.size) (cwV 0 hts gX7_onChain_X7_traceChain rfl rfl rfl hdX7_traceChain ⟨Nat.le_of_ble_eq_true rfl, Nat.le_of_ble_eq_true rfl⟩) (preVB hK hN hP hD [0, 1, 2, 3, 4] rfl rfl rfl 0 rfl rfl []) rfl rfl hl.1 rfl (lv_room (Nat.le_of_ble_eq_true rfl)) dX7_onChain_8 ⟨Nat.le_refl _, Nat.le_refl _⟩) hP hD hS hA [0, 1, 2, 3, 4] [] rfl rfl (by decide) (by decide) (fun u8 H locs hw8 hP hD hS => ?_)
    obtain ⟨wf28, rfl⟩ : ∃ z, z = u8 := ⟨_, rfl⟩
    have hP : va_P dg vwCl [(x0, .inr (7, [.ref xl, .ref xh, .ref xt, .ref xp, .ref xo, .ref xu, .ref xw])), (xl, .inr (1, [.ref xlc])), (xlc, .inl (tq.1, 1473, .inl c)), (xw, .inr (3, [.ref xwe, .int (nI (dep s (hE s)))])), (xwe, .inl (tq.1, 60, .inl wf28))] H := hP
    have hD : va_D AA [(x0, .inr (7, [.ref xl, .ref xh, .ref xt, .ref xp, .ref xo, .ref xu, .ref xw])), (xl, .inr (1, [.ref xlc])), (xlc, .inl (tq.1, 1473, .inl c)), (xw, .inr (3, [.ref xwe, .int (nI (dep s (hE s)))])), (xwe, .inl (tq.1, 60, .inl wf28))] := hD
    refine lv_aload_n hx hb dX7_onChain_11 rfl (lv_at hl 0 rfl) ?_
    refine va_get (D := dg) (ci := 7) (v := .ref xw) (C := RX7) (T := TX7) (N := 7) hx hb hts in7 hown hK hP 0 rfl rfl 6 (by decide) f54 (fun _ h9 => h9) rfl dX7_onChain_12 ?_
    refine lv_iload_n hx hb dX7_onChain_15 rfl (lv_at hl 1 rfl) ?_
    refine call_x (va_runV (As := [.int x]) (rest := []) ⟨hx, hb, hml, hown, hts⟩ (kX3_at__r ln dg tq (w0 := xw) (w1 := xwe) (len := dep s (hE s)) (pc := wf28) (x := x) (hlen := (by omega)) H.size) (cwV 1 hts gX7_onChain_X3_at rfl rfl rfl hdX3_at ⟨Nat.le_of_ble_eq_true rfl, Nat.le_of_ble_eq_true rfl⟩) (preVR hK hN hP [3, 4] rfl 3 rfl rfl [.int x]) rfl rfl hl.1 rfl (lv_room (Nat.le_of_ble_eq_true rfl)) dX7_onChain_16 ⟨Nat.le_refl _, Nat.le_refl _⟩) hP hS hA (fun H locs hP hS => ?_)
    exact hret (if hasN x (dep s (hE s)) = true then wf28 x.toNatClampNeg else -100009) ((nI (dep s (hE s))), wf28) H locs _ ls (show (if hasN x (dep s (hE s)) = true then wf28 x.toNatClampNeg else -100009) = (ocR s x) from (by unfold ocR; rw [if_neg (show ¬ x.toInt < 0 by omega)]; by_cases hh : hasN x (dep s (hE s)) = true; (rw [if_pos hh, if_pos hh]; exact hw8 _ (by obtain ⟨k, hk, rfl⟩ := hasN_t hh; rw [nI_clamp (by omega)]; exact hk)); (rw [if_neg hh, if_neg hh]))) rfl (hP.sub [0, 1, 2, 3, 4] rfl) (hD.sub [0, 1, 2, 3, 4] (by decide) rfl) hS dX7_onChain_19
  · skip
    refine lv_ldc hx hb hown k65 dX7_onChain_4 ?_
    exact hret (-100001) (wl, wf) H locs _ ls (show (-100001) = (ocR s x) from (by unfold ocR; rw [if_pos (by omega)])) rfl (hP.sub [0, 1, 2, 3, 4] rfl) (hD.sub [0, 1, 2, 3, 4] (by decide) rfl) hS dX7_onChain_6
theorem hdX7_branch : yX7_branch.cls = RX7 ∧ yX7_branch.cls ≠ "java/lang/invoke/MethodHandle" ∧ yX7_branch.cls ≠ "java/lang/invoke/VarHandle" ∧ (parseMethodDescriptor yX7_branch.desc).map (fun d => d.parameters.length) = some 2 := by decide +kernel
set_option maxHeartbeats 4000000 in
set_option maxRecDepth 100000 in
theorem kX7_branch (ln : Launch) (dg : va_G) (tq : ClassId × ClassId) (x0 xl xh xt xp xo xu xw : Nat)(xlc : Nat) (c : Row) (s : Row) (hF : FS s c) (x w : Int32) : MR ln yX7_branch wsX7_branch (rmm 3 64) dg tq [.ref x0, .int x, .int w] [(x0, .inr (7, [.ref xl, .ref xh, .ref xt, .ref xp, .ref xo, .ref xu, .ref xw])), (xl, .inr (1, [.ref xlc])), (xlc, .inl (tq.1, 1473, .inl c))] (fun r => r = (brR s x w)) := by
  refine MR.enter cX7_branch 3 .int (by decide) rfl rfl (Nat.le_of_ble_eq_true rfl) ?_
  intro pP eE sS mM aA bB mT cC QQ AA hA hAT hret H locs hP hS ls hl
  obtain ⟨hx, hb, hml, hown, hts, hK, hN⟩ := hAT
  have hown : sS.vm.findClass RX7 = some mM.cls := hown
  have hl : lv_has ls 3 [(0, .ref x0), (1, .int x), (2, .int w)] := hl
  have in7 : ∀ w ∈ u_ws RX7 TX7 7, w ∈ wsX7_branch := (fun _ h9 => List.mem_cons_of_mem _ (List.mem_append_left _ (List.mem_append_right _ h9)))
  have f12 := hts (.fieldLink RX7 12 "OrphanChain" "ledger" "LOrphanChain$Ledger;") (List.mem_of_getElem? (i := 1) rfl)
  have k65 := hts (.constant RX7 65 (-100001)) (List.mem_of_getElem? (i := 2) rfl)
  obtain ⟨hR, hW, hs0, hs1⟩ := id hF
  have hn60 := hW.n60
  have hb10 := hW.b10
  have hs8 := hW.s8
  have hhn := hW.hn
  have hcl := cntF_le (loudB s) (nB s)
  refine lv_aload_n hx hb dX7_branch_0 rfl (lv_at hl 0 rfl) ?_
  refine va_get (D := dg) (ci := 7) (v := .ref xl) (C := RX7) (T := TX7) (N := 7) hx hb hts in7 hown hK hP 0 rfl rfl 0 (by decide) f12 (fun _ h9 => h9) rfl dX7_branch_1 ?_
  refine lv_iload_n hx hb dX7_branch_4 rfl (lv_at hl 1 rfl) ?_
  refine call_x (va_runV (As := [.int x]) (rest := []) ⟨hx, hb, hml, hown, hts⟩ (kX1_hasBranch ln dg tq (h0 := xl) (h1 := xlc) (c := c) (s := s) (hR := (by omega)) (hW := (by omega)) (x := x) H.size) (cwV 1 hts gX7_branch_X1_hasBranch rfl rfl rfl hdX1_hasBranch ⟨Nat.le_of_ble_eq_true rfl, Nat.le_of_ble_eq_true rfl⟩) (preVR hK hN hP [1, 2] rfl 1 rfl rfl [.int x]) rfl rfl hl.1 rfl (lv_room (Nat.le_of_ble_eq_true rfl)) dX7_branch_5 ⟨Nat.le_refl _, Nat.le_refl _⟩) hP hS hA (fun H locs hP hS => ?_)
  refine r_if_ne_b (tgt := 14) hx hb dX7_branch_8 (by decide) (fun c8 => ?_) (fun c8 => ?_)
  · skip
    obtain ⟨bk_, hbk, rfl⟩ := hasN_t c8
    have hlf := hW.lfl hbk
    refine lv_iload_n hx hb dX7_branch_14 rfl (lv_at hl 2 rfl) ?_
    by_cases hsw : 0 ≤ w.toInt ∧ w.toInt < ((6 : Nat) : Int)
    · obtain ⟨jsw, hjsw, rfl⟩ := tI_natlt hsw.1 hsw.2
      rcases (show jsw = 0 ∨ jsw = 1 ∨ jsw = 2 ∨ jsw = 3 ∨ jsw = 4 ∨ jsw = 5 by omega) with rfl | rfl | rfl | rfl | rfl | rfl
      · skip
        refine lv_tableIn (off := 37) (tgt := 52) hx hb dX7_branch_15 (by decide) (by decide) rfl (by decide) ?_
        refine lv_aload_n hx hb dX7_branch_52 rfl (lv_at hl 0 rfl) ?_
        refine va_get (D := dg) (ci := 7) (v := .ref xl) (C := RX7) (T := TX7) (N := 7) hx hb hts in7 hown hK hP 0 rfl rfl 0 (by decide) f12 (fun _ h9 => h9) rfl dX7_branch_53 ?_
        refine lv_iload_n hx hb dX7_branch_56 rfl (lv_at hl 1 rfl) ?_
        refine lv_iconst (v := (nI 0)) hx hb dX7_branch_57 (by decide) ?_
        refine call_x (va_runV (As := [.int (nI bk_), .int (nI 0)]) (rest := []) ⟨hx, hb, hml, hown, hts⟩ (kX1_ofBranch ln dg tq (h0 := xl) (h1 := xlc) (c := c) (e := bk_) (f := 0) (he := (by omega)) (hf := (by omega)) H.size) (cwV 2 hts gX7_branch_X1_ofBranch rfl rfl rfl hdX1_ofBranch ⟨Nat.le_of_ble_eq_true rfl, Nat.le_of_ble_eq_true rfl⟩) (preVR hK hN hP [1, 2] rfl 1 rfl rfl [.int (nI bk_), .int (nI 0)]) rfl rfl hl.1 rfl (lv_room (Nat.le_of_ble_eq_true rfl)) dX7_branch_58 ⟨Nat.le_refl _, Nat.le_refl _⟩) hP hS hA (fun H locs hP hS => ?_)
        refine r_top (show (c (425 + bk_ * 5 + 0)) = (nI (lf s bk_)) from hR.LF hW (by omega)) ?_
        exact hret (nI (lf s bk_)) H locs _ ls (by rw [brR, if_pos ⟨hasN_n (by omega) (by omega), hasN_n (by omega) (by omega)⟩, cl_n (by omega), cl_n (by omega)]; rfl) rfl hS dX7_branch_61
      · skip
        refine lv_tableIn (off := 47) (tgt := 62) hx hb dX7_branch_15 (by decide) (by decide) rfl (by decide) ?_
        refine lv_aload_n hx hb dX7_branch_62 rfl (lv_at hl 0 rfl) ?_
        refine va_get (D := dg) (ci := 7) (v := .ref xl) (C := RX7) (T := TX7) (N := 7) hx hb hts in7 hown hK hP 0 rfl rfl 0 (by decide) f12 (fun _ h9 => h9) rfl dX7_branch_63 ?_
        refine lv_iload_n hx hb dX7_branch_66 rfl (lv_at hl 1 rfl) ?_
        refine lv_iconst (v := (nI 1)) hx hb dX7_branch_67 (by decide) ?_
        refine call_x (va_runV (As := [.int (nI bk_), .int (nI 1)]) (rest := []) ⟨hx, hb, hml, hown, hts⟩ (kX1_ofBranch ln dg tq (h0 := xl) (h1 := xlc) (c := c) (e := bk_) (f := 1) (he := (by omega)) (hf := (by omega)) H.size) (cwV 2 hts gX7_branch_X1_ofBranch rfl rfl rfl hdX1_ofBranch ⟨Nat.le_of_ble_eq_true rfl, Nat.le_of_ble_eq_true rfl⟩) (preVR hK hN hP [1, 2] rfl 1 rfl rfl [.int (nI bk_), .int (nI 1)]) rfl rfl hl.1 rfl (lv_room (Nat.le_of_ble_eq_true rfl)) dX7_branch_68 ⟨Nat.le_refl _, Nat.le_refl _⟩) hP hS hA (fun H locs hP hS => ?_)
        refine r_top (show (c (425 + bk_ * 5 + 1)) = (nI (mn s bk_)) from hR.MN hW (by omega)) ?_
        exact hret (nI (mn s bk_)) H locs _ ls (by rw [brR, if_pos ⟨hasN_n (by omega) (by omega), hasN_n (by omega) (by omega)⟩, cl_n (by omega), cl_n (by omega)]; rfl) rfl hS dX7_branch_71
      · skip
        refine lv_tableIn (off := 57) (tgt := 72) hx hb dX7_branch_15 (by decide) (by decide) rfl (by decide) ?_
        refine lv_aload_n hx hb dX7_branch_72 rfl (lv_at hl 0 rfl) ?_
        refine va_get (D := dg) (ci := 7) (v := .ref xl) (C := RX7) (T := TX7) (N := 7) hx hb hts in7 hown hK hP 0 rfl rfl 0 (by decide) f12 (fun _ h9 => h9) rfl dX7_branch_73 ?_
        refine lv_iload_n hx hb dX7_branch_76 rfl (lv_at hl 1 rfl) ?_
        refine lv_iconst (v := (nI 2)) hx hb dX7_branch_77 (by decide) ?_
        refine call_x (va_runV (As := [.int (nI bk_), .int (nI 2)]) (rest := []) ⟨hx, hb, hml, hown, hts⟩ (kX1_ofBranch ln dg tq (h0 := xl) (h1 := xlc) (c := c) (e := bk_) (f := 2) (he := (by omega)) (hf := (by omega)) H.size) (cwV 2 hts gX7_branch_X1_ofBranch rfl rfl rfl hdX1_ofBranch ⟨Nat.le_of_ble_eq_true rfl, Nat.le_of_ble_eq_true rfl⟩) (preVR hK hN hP [1, 2] rfl 1 rfl rfl [.int (nI bk_), .int (nI 2)]) rfl rfl hl.1 rfl (lv_room (Nat.le_of_ble_eq_true rfl)) dX7_branch_78 ⟨Nat.le_refl _, Nat.le_refl _⟩) hP hS hA (fun H locs hP hS => ?_)
        refine r_top (show (c (425 + bk_ * 5 + 2)) = (nI (brE s bk_ 0)) from hR.fst (by omega)) ?_
        exact hret (nI (brE s bk_ 0)) H locs _ ls (by rw [brR, if_pos ⟨hasN_n (by omega) (by omega), hasN_n (by omega) (by omega)⟩, cl_n (by omega), cl_n (by omega)]; rfl) rfl hS dX7_branch_81
      · skip
        refine lv_tableIn (off := 67) (tgt := 82) hx hb dX7_branch_15 (by decide) (by decide) rfl (by decide) ?_
        refine lv_aload_n hx hb dX7_branch_82 rfl (lv_at hl 0 rfl) ?_
        refine va_get (D := dg) (ci := 7) (v := .ref xl) (C := RX7) (T := TX7) (N := 7) hx hb hts in7 hown hK hP 0 rfl rfl 0 (by decide) f12 (fun _ h9 => h9) rfl dX7_branch_83 ?_
        refine lv_iload_n hx hb dX7_branch_86 rfl (lv_at hl 1 rfl) ?_
        refine lv_iconst (v := (nI 3)) hx hb dX7_branch_87 (by decide) ?_
        refine call_x (va_runV (As := [.int (nI bk_), .int (nI 3)]) (rest := []) ⟨hx, hb, hml, hown, hts⟩ (kX1_ofBranch ln dg tq (h0 := xl) (h1 := xlc) (c := c) (e := bk_) (f := 3) (he := (by omega)) (hf := (by omega)) H.size) (cwV 2 hts gX7_branch_X1_ofBranch rfl rfl rfl hdX1_ofBranch ⟨Nat.le_of_ble_eq_true rfl, Nat.le_of_ble_eq_true rfl⟩) (preVR hK hN hP [1, 2] rfl 1 rfl rfl [.int (nI bk_), .int (nI 3)]) rfl rfl hl.1 rfl (lv_room (Nat.le_of_ble_eq_true rfl)) dX7_branch_88 ⟨Nat.le_refl _, Nat.le_refl _⟩) hP hS hA (fun H locs hP hS => ?_)
        refine r_top (show (c (425 + bk_ * 5 + 3)) = (mb s bk_ 2) from hR.pl (by omega)) ?_
        exact hret (mb s bk_ 2) H locs _ ls (by rw [brR, if_pos ⟨hasN_n (by omega) (by omega), hasN_n (by omega) (by omega)⟩, cl_n (by omega), cl_n (by omega)]; rfl) rfl hS dX7_branch_91
      · skip
        refine lv_tableIn (off := 77) (tgt := 92) hx hb dX7_branch_15 (by decide) (by decide) rfl (by decide) ?_
        refine lv_aload_n hx hb dX7_branch_92 rfl (lv_at hl 0 rfl) ?_
        refine va_get (D := dg) (ci := 7) (v := .ref xl) (C := RX7) (T := TX7) (N := 7) hx hb hts in7 hown hK hP 0 rfl rfl 0 (by decide) f12 (fun _ h9 => h9) rfl dX7_branch_93 ?_
        refine lv_iload_n hx hb dX7_branch_96 rfl (lv_at hl 1 rfl) ?_
        refine call_x (va_runV (As := [.int (nI bk_)]) (rest := []) ⟨hx, hb, hml, hown, hts⟩ (kX1_isLoud ln dg tq (h0 := xl) (h1 := xlc) (c := c) (s := s) (hR := (by omega)) (hW := (by omega)) (b := bk_) (hb0 := (by omega)) H.size) (cwV 1 hts gX7_branch_X1_isLoud rfl rfl rfl hdX1_isLoud ⟨Nat.le_of_ble_eq_true rfl, Nat.le_of_ble_eq_true rfl⟩) (preVR hK hN hP [1, 2] rfl 1 rfl rfl [.int (nI bk_)]) rfl rfl hl.1 rfl (lv_room (Nat.le_of_ble_eq_true rfl)) dX7_branch_97 ⟨Nat.le_refl _, Nat.le_refl _⟩) hP hS hA (fun H locs hP hS => ?_)
        refine r_if_eq_b (tgt := 107) hx hb dX7_branch_100 (by decide) (fun c100 => ?_) (fun c100 => ?_)
        · skip
          refine lv_aload_n hx hb dX7_branch_107 rfl (lv_at hl 0 rfl) ?_
          refine va_get (D := dg) (ci := 7) (v := .ref xl) (C := RX7) (T := TX7) (N := 7) hx hb hts in7 hown hK hP 0 rfl rfl 0 (by decide) f12 (fun _ h9 => h9) rfl dX7_branch_108 ?_
          refine lv_iload_n hx hb dX7_branch_111 rfl (lv_at hl 1 rfl) ?_
          refine lv_iconst (v := (nI 4)) hx hb dX7_branch_112 (by decide) ?_
          refine call_x (va_runV (As := [.int (nI bk_), .int (nI 4)]) (rest := []) ⟨hx, hb, hml, hown, hts⟩ (kX1_ofBranch ln dg tq (h0 := xl) (h1 := xlc) (c := c) (e := bk_) (f := 4) (he := (by omega)) (hf := (by omega)) H.size) (cwV 2 hts gX7_branch_X1_ofBranch rfl rfl rfl hdX1_ofBranch ⟨Nat.le_of_ble_eq_true rfl, Nat.le_of_ble_eq_true rfl⟩) (preVR hK hN hP [1, 2] rfl 1 rfl rfl [.int (nI bk_), .int (nI 4)]) rfl rfl hl.1 rfl (lv_room (Nat.le_of_ble_eq_true rfl)) dX7_branch_113 ⟨Nat.le_refl _, Nat.le_refl _⟩) hP hS hA (fun H locs hP hS => ?_)
          refine r_top (show (c (425 + bk_ * 5 + 4)) = (mb s bk_ 3) from hR.st (by omega)) ?_
          exact hret (mb s bk_ 3) H locs _ ls (by rw [brR, if_pos ⟨hasN_n (by omega) (by omega), hasN_n (by omega) (by omega)⟩, cl_n (by omega), cl_n (by omega)]; rw [brN, c100]; rfl) rfl hS dX7_branch_116
        · skip
          refine lv_iconst (v := (nI 1)) hx hb dX7_branch_103 (by decide) ?_
          refine lv_goto (tgt := 116) hx hb dX7_branch_104 (by decide) ?_
          exact hret (nI 1) H locs _ ls (by rw [brR, if_pos ⟨hasN_n (by omega) (by omega), hasN_n (by omega) (by omega)⟩, cl_n (by omega), cl_n (by omega)]; rw [brN, c100]; rfl) rfl hS dX7_branch_116
      · skip
        refine lv_tableIn (off := 102) (tgt := 117) hx hb dX7_branch_15 (by decide) (by decide) rfl (by decide) ?_
        refine lv_aload_n hx hb dX7_branch_117 rfl (lv_at hl 0 rfl) ?_
        refine va_get (D := dg) (ci := 7) (v := .ref xl) (C := RX7) (T := TX7) (N := 7) hx hb hts in7 hown hK hP 0 rfl rfl 0 (by decide) f12 (fun _ h9 => h9) rfl dX7_branch_118 ?_
        refine lv_aload_n hx hb dX7_branch_121 rfl (lv_at hl 0 rfl) ?_
        refine va_get (D := dg) (ci := 7) (v := .ref xl) (C := RX7) (T := TX7) (N := 7) hx hb hts in7 hown hK hP 0 rfl rfl 0 (by decide) f12 (fun _ h9 => h9) rfl dX7_branch_122 ?_
        refine lv_iload_n hx hb dX7_branch_125 rfl (lv_at hl 1 rfl) ?_
        refine lv_iconst (v := (nI 0)) hx hb dX7_branch_126 (by decide) ?_
        refine call_x (va_runV (As := [.int (nI bk_), .int (nI 0)]) (rest := [.ref xl]) ⟨hx, hb, hml, hown, hts⟩ (kX1_ofBranch ln dg tq (h0 := xl) (h1 := xlc) (c := c) (e := bk_) (f := 0) (he := (by omega)) (hf := (by omega)) H.size) (cwV 2 hts gX7_branch_X1_ofBranch rfl rfl rfl hdX1_ofBranch ⟨Nat.le_of_ble_eq_true rfl, Nat.le_of_ble_eq_true rfl⟩) (preVR hK hN hP [1, 2] rfl 1 rfl rfl [.int (nI bk_), .int (nI 0)]) rfl rfl hl.1 rfl (lv_room (Nat.le_of_ble_eq_true rfl)) dX7_branch_127 ⟨Nat.le_refl _, Nat.le_refl _⟩) hP hS hA (fun H locs hP hS => ?_)
        refine r_top (show (c (425 + bk_ * 5 + 0)) = (nI (lf s bk_)) from hR.LF hW (by omega)) ?_
        refine lv_aload_n hx hb dX7_branch_130 rfl (lv_at hl 0 rfl) ?_
        refine va_get (D := dg) (ci := 7) (v := .ref xl) (C := RX7) (T := TX7) (N := 7) hx hb hts in7 hown hK hP 0 rfl rfl 0 (by decide) f12 (fun _ h9 => h9) rfl dX7_branch_131 ?_
        refine lv_iconst (v := (nI 1)) hx hb dX7_branch_134 (by decide) ?_
        refine call_x (va_runV (As := [.int (nI 1)]) (rest := [.int (nI (lf s bk_)), .ref xl]) ⟨hx, hb, hml, hown, hts⟩ (kX1_number ln dg tq (h0 := xl) (h1 := xlc) (c := c) (k := 1) (hk := (by omega)) H.size) (cwV 1 hts gX7_branch_X1_number rfl rfl rfl hdX1_number ⟨Nat.le_of_ble_eq_true rfl, Nat.le_of_ble_eq_true rfl⟩) (preVR hK hN hP [1, 2] rfl 1 rfl rfl [.int (nI 1)]) rfl rfl hl.1 rfl (lv_room (Nat.le_of_ble_eq_true rfl)) dX7_branch_135 ⟨Nat.le_refl _, Nat.le_refl _⟩) hP hS hA (fun H locs hP hS => ?_)
        refine r_top (show (c 1) = (nI (hE s)) from (hR.hh hW)) ?_
        refine call_x (va_runV (As := [.int (nI (lf s bk_)), .int (nI (hE s))]) (rest := []) ⟨hx, hb, hml, hown, hts⟩ (kX1_lastShared ln dg tq (h0 := xl) (h1 := xlc) (c := c) (s := s) (hR := (by omega)) (hW := (by omega)) (x := lf s bk_) (y := hE s) (hx := (by omega)) (hy := (by omega)) H.size) (cwV 2 hts gX7_branch_X1_lastShared rfl rfl rfl hdX1_lastShared ⟨Nat.le_of_ble_eq_true rfl, Nat.le_of_ble_eq_true rfl⟩) (preVR hK hN hP [1, 2] rfl 1 rfl rfl [.int (nI (lf s bk_)), .int (nI (hE s))]) rfl rfl hl.1 rfl (lv_room (Nat.le_of_ble_eq_true rfl)) dX7_branch_138 ⟨Nat.le_refl _, Nat.le_refl _⟩) hP hS hA (fun H locs hP hS => ?_)
        exact hret (nI (meet s (lf s bk_) (hE s))) H locs _ ls (by rw [brR, if_pos ⟨hasN_n (by omega) (by omega), hasN_n (by omega) (by omega)⟩, cl_n (by omega), cl_n (by omega)]; rfl) rfl hS dX7_branch_141
    · refine lv_tableOut (tgt := 142) hx hb dX7_branch_15 (by omega) (by decide) ?_
      refine lv_ldc hx hb hown k65 dX7_branch_142 ?_
      exact hret (-100001) H locs _ ls (by rw [brR, if_neg (fun z => hsw (of_decide_eq_true z.2))]) rfl hS dX7_branch_144
  · skip
    refine lv_ldc hx hb hown k65 dX7_branch_11 ?_
    exact hret (-100001) H locs _ ls (by rw [brR, if_neg (fun z => by rw [c8] at z; cases z.1)]) rfl hS dX7_branch_13
theorem hdX7_sealed : yX7_sealed.cls = RX7 ∧ yX7_sealed.cls ≠ "java/lang/invoke/MethodHandle" ∧ yX7_sealed.cls ≠ "java/lang/invoke/VarHandle" ∧ (parseMethodDescriptor yX7_sealed.desc).map (fun d => d.parameters.length) = some 2 := by decide +kernel
set_option maxHeartbeats 4000000 in
set_option maxRecDepth 100000 in
theorem kX7_sealed (ln : Launch) (dg : va_G) (tq : ClassId × ClassId) (x0 xl xh xt xp xo xu xw : Nat)(xlc : Nat) (c : Row) (s : Row) (hF : FS s c) (x w : Int32) : MR ln yX7_sealed wsX7_sealed (rmm 2 43) dg tq [.ref x0, .int x, .int w] [(x0, .inr (7, [.ref xl, .ref xh, .ref xt, .ref xp, .ref xo, .ref xu, .ref xw])), (xl, .inr (1, [.ref xlc])), (xlc, .inl (tq.1, 1473, .inl c))] (fun r => r = (sdR s x w)) := by
  refine MR.enter cX7_sealed 3 .int (by decide) rfl rfl (Nat.le_of_ble_eq_true rfl) ?_
  intro pP eE sS mM aA bB mT cC QQ AA hA hAT hret H locs hP hS ls hl
  obtain ⟨hx, hb, hml, hown, hts, hK, hN⟩ := hAT
  have hown : sS.vm.findClass RX7 = some mM.cls := hown
  have hl : lv_has ls 3 [(0, .ref x0), (1, .int x), (2, .int w)] := hl
  have in7 : ∀ w ∈ u_ws RX7 TX7 7, w ∈ wsX7_sealed := (fun _ h9 => List.mem_cons_of_mem _ (List.mem_append_left _ (List.mem_append_right _ h9)))
  have f12 := hts (.fieldLink RX7 12 "OrphanChain" "ledger" "LOrphanChain$Ledger;") (List.mem_of_getElem? (i := 1) rfl)
  have k65 := hts (.constant RX7 65 (-100001)) (List.mem_of_getElem? (i := 2) rfl)
  obtain ⟨hR, hW, hs0, hs1⟩ := id hF
  have hn60 := hW.n60
  have hb10 := hW.b10
  have hs8 := hW.s8
  have hhn := hW.hn
  have hcl := cntF_le (loudB s) (nB s)
  refine lv_aload_n hx hb dX7_sealed_0 rfl (lv_at hl 0 rfl) ?_
  refine va_get (D := dg) (ci := 7) (v := .ref xl) (C := RX7) (T := TX7) (N := 7) hx hb hts in7 hown hK hP 0 rfl rfl 0 (by decide) f12 (fun _ h9 => h9) rfl dX7_sealed_1 ?_
  refine lv_iload_n hx hb dX7_sealed_4 rfl (lv_at hl 1 rfl) ?_
  refine call_x (va_runV (As := [.int x]) (rest := []) ⟨hx, hb, hml, hown, hts⟩ (kX1_hasSeal ln dg tq (h0 := xl) (h1 := xlc) (c := c) (s := s) (hR := (by omega)) (hW := (by omega)) (x := x) H.size) (cwV 1 hts gX7_sealed_X1_hasSeal rfl rfl rfl hdX1_hasSeal ⟨Nat.le_of_ble_eq_true rfl, Nat.le_of_ble_eq_true rfl⟩) (preVR hK hN hP [1, 2] rfl 1 rfl rfl [.int x]) rfl rfl hl.1 rfl (lv_room (Nat.le_of_ble_eq_true rfl)) dX7_sealed_5 ⟨Nat.le_refl _, Nat.le_refl _⟩) hP hS hA (fun H locs hP hS => ?_)
  refine r_if_ne_b (tgt := 14) hx hb dX7_sealed_8 (by decide) (fun c8 => ?_) (fun c8 => ?_)
  · skip
    obtain ⟨sk_, hsk, rfl⟩ := hasN_t c8
    refine lv_iload_n hx hb dX7_sealed_14 rfl (lv_at hl 2 rfl) ?_
    by_cases hsw : 0 ≤ w.toInt ∧ w.toInt < ((3 : Nat) : Int)
    · obtain ⟨jsw, hjsw, rfl⟩ := tI_natlt hsw.1 hsw.2
      rcases (show jsw = 0 ∨ jsw = 1 ∨ jsw = 2 by omega) with rfl | rfl | rfl
      · skip
        refine lv_tableIn (off := 25) (tgt := 40) hx hb dX7_sealed_15 (by decide) (by decide) rfl (by decide) ?_
        refine lv_aload_n hx hb dX7_sealed_40 rfl (lv_at hl 0 rfl) ?_
        refine va_get (D := dg) (ci := 7) (v := .ref xl) (C := RX7) (T := TX7) (N := 7) hx hb hts in7 hown hK hP 0 rfl rfl 0 (by decide) f12 (fun _ h9 => h9) rfl dX7_sealed_41 ?_
        refine lv_iload_n hx hb dX7_sealed_44 rfl (lv_at hl 1 rfl) ?_
        refine lv_iconst (v := (nI 0)) hx hb dX7_sealed_45 (by decide) ?_
        refine call_x (va_runV (As := [.int (nI sk_), .int (nI 0)]) (rest := []) ⟨hx, hb, hml, hown, hts⟩ (kX1_ofSeal ln dg tq (h0 := xl) (h1 := xlc) (c := c) (e := sk_) (f := 0) (he := (by omega)) (hf := (by omega)) H.size) (cwV 2 hts gX7_sealed_X1_ofSeal rfl rfl rfl hdX1_ofSeal ⟨Nat.le_of_ble_eq_true rfl, Nat.le_of_ble_eq_true rfl⟩) (preVR hK hN hP [1, 2] rfl 1 rfl rfl [.int (nI sk_), .int (nI 0)]) rfl rfl hl.1 rfl (lv_room (Nat.le_of_ble_eq_true rfl)) dX7_sealed_46 ⟨Nat.le_refl _, Nat.le_refl _⟩) hP hS hA (fun H locs hP hS => ?_)
        refine r_top (show (c (475 + sk_ * 2 + 0)) = (nI (sE s sk_)) from hR.SE hW (by omega)) ?_
        exact hret (nI (sE s sk_)) H locs _ ls (by rw [sdR, if_pos ⟨hasN_n (by omega) (by omega), hasN_n (by omega) (by omega)⟩, cl_n (by omega), cl_n (by omega)]; rfl) rfl hS dX7_sealed_49
      · skip
        refine lv_tableIn (off := 35) (tgt := 50) hx hb dX7_sealed_15 (by decide) (by decide) rfl (by decide) ?_
        refine lv_aload_n hx hb dX7_sealed_50 rfl (lv_at hl 0 rfl) ?_
        refine va_get (D := dg) (ci := 7) (v := .ref xl) (C := RX7) (T := TX7) (N := 7) hx hb hts in7 hown hK hP 0 rfl rfl 0 (by decide) f12 (fun _ h9 => h9) rfl dX7_sealed_51 ?_
        refine lv_iload_n hx hb dX7_sealed_54 rfl (lv_at hl 1 rfl) ?_
        refine lv_iconst (v := (nI 1)) hx hb dX7_sealed_55 (by decide) ?_
        refine call_x (va_runV (As := [.int (nI sk_), .int (nI 1)]) (rest := []) ⟨hx, hb, hml, hown, hts⟩ (kX1_ofSeal ln dg tq (h0 := xl) (h1 := xlc) (c := c) (e := sk_) (f := 1) (he := (by omega)) (hf := (by omega)) H.size) (cwV 2 hts gX7_sealed_X1_ofSeal rfl rfl rfl hdX1_ofSeal ⟨Nat.le_of_ble_eq_true rfl, Nat.le_of_ble_eq_true rfl⟩) (preVR hK hN hP [1, 2] rfl 1 rfl rfl [.int (nI sk_), .int (nI 1)]) rfl rfl hl.1 rfl (lv_room (Nat.le_of_ble_eq_true rfl)) dX7_sealed_56 ⟨Nat.le_refl _, Nat.le_refl _⟩) hP hS hA (fun H locs hP hS => ?_)
        refine r_top (show (c (475 + sk_ * 2 + 1)) = (msl s sk_ 1) from hR.sl (by omega)) ?_
        exact hret (msl s sk_ 1) H locs _ ls (by rw [sdR, if_pos ⟨hasN_n (by omega) (by omega), hasN_n (by omega) (by omega)⟩, cl_n (by omega), cl_n (by omega)]; rfl) rfl hS dX7_sealed_59
      · skip
        refine lv_tableIn (off := 45) (tgt := 60) hx hb dX7_sealed_15 (by decide) (by decide) rfl (by decide) ?_
        refine lv_aload_n hx hb dX7_sealed_60 rfl (lv_at hl 0 rfl) ?_
        refine va_get (D := dg) (ci := 7) (v := .ref xl) (C := RX7) (T := TX7) (N := 7) hx hb hts in7 hown hK hP 0 rfl rfl 0 (by decide) f12 (fun _ h9 => h9) rfl dX7_sealed_61 ?_
        refine lv_iload_n hx hb dX7_sealed_64 rfl (lv_at hl 1 rfl) ?_
        refine call_x (va_runV (As := [.int (nI sk_)]) (rest := []) ⟨hx, hb, hml, hown, hts⟩ (kX1_sealFits ln dg tq (h0 := xl) (h1 := xlc) (c := c) (s := s) (hR := (by omega)) (hW := (by omega)) (k := sk_) (hk := (by omega)) H.size) (cwV 1 hts gX7_sealed_X1_sealFits rfl rfl rfl hdX1_sealFits ⟨Nat.le_of_ble_eq_true rfl, Nat.le_of_ble_eq_true rfl⟩) (preVR hK hN hP [1, 2] rfl 1 rfl rfl [.int (nI sk_)]) rfl rfl hl.1 rfl (lv_room (Nat.le_of_ble_eq_true rfl)) dX7_sealed_65 ⟨Nat.le_refl _, Nat.le_refl _⟩) hP hS hA (fun H locs hP hS => ?_)
        refine r_if_eq_b (tgt := 75) hx hb dX7_sealed_68 (by decide) (fun c68 => ?_) (fun c68 => ?_)
        · skip
          refine lv_iconst (v := (nI 0)) hx hb dX7_sealed_75 (by decide) ?_
          exact hret (nI 0) H locs _ ls (by rw [sdR, if_pos ⟨hasN_n (by omega) (by omega), hasN_n (by omega) (by omega)⟩, cl_n (by omega), cl_n (by omega)]; rw [sdN, c68]; rfl) rfl hS dX7_sealed_76
        · skip
          refine lv_iconst (v := (nI 1)) hx hb dX7_sealed_71 (by decide) ?_
          refine lv_goto (tgt := 76) hx hb dX7_sealed_72 (by decide) ?_
          exact hret (nI 1) H locs _ ls (by rw [sdR, if_pos ⟨hasN_n (by omega) (by omega), hasN_n (by omega) (by omega)⟩, cl_n (by omega), cl_n (by omega)]; rw [sdN, c68]; rfl) rfl hS dX7_sealed_76
    · refine lv_tableOut (tgt := 77) hx hb dX7_sealed_15 (by omega) (by decide) ?_
      refine lv_ldc hx hb hown k65 dX7_sealed_77 ?_
      exact hret (-100001) H locs _ ls (by rw [sdR, if_neg (fun z => hsw (of_decide_eq_true z.2))]) rfl hS dX7_sealed_79
  · skip
    refine lv_ldc hx hb hown k65 dX7_sealed_11 ?_
    exact hret (-100001) H locs _ ls (by rw [sdR, if_neg (fun z => by rw [c8] at z; cases z.1)]) rfl hS dX7_sealed_13
theorem hdX7_common : yX7_common.cls = RX7 ∧ yX7_common.cls ≠ "java/lang/invoke/MethodHandle" ∧ yX7_common.cls ≠ "java/lang/invoke/VarHandle" ∧ (parseMethodDescriptor yX7_common.desc).map (fun d => d.parameters.length) = some 2 := by decide +kernel
set_option maxHeartbeats 4000000 in
set_option maxRecDepth 100000 in
theorem kX7_common (ln : Launch) (dg : va_G) (tq : ClassId × ClassId) (x0 xl xh xt xp xo xu xw : Nat)(xlc : Nat) (c : Row) (s : Row) (hF : FS s c) (x y : Int32) : MR ln yX7_common wsX7_common (rmm 2 47) dg tq [.ref x0, .int x, .int y] [(x0, .inr (7, [.ref xl, .ref xh, .ref xt, .ref xp, .ref xo, .ref xu, .ref xw])), (xl, .inr (1, [.ref xlc])), (xlc, .inl (tq.1, 1473, .inl c))] (fun r => r = (cmR s x y)) := by
  refine MR.enter cX7_common 3 .int (by decide) rfl rfl (Nat.le_of_ble_eq_true rfl) ?_
  intro pP eE sS mM aA bB mT cC QQ AA hA hAT hret H locs hP hS ls hl
  obtain ⟨hx, hb, hml, hown, hts, hK, hN⟩ := hAT
  have hown : sS.vm.findClass RX7 = some mM.cls := hown
  have hl : lv_has ls 3 [(0, .ref x0), (1, .int x), (2, .int y)] := hl
  have in7 : ∀ w ∈ u_ws RX7 TX7 7, w ∈ wsX7_common := (fun _ h9 => List.mem_cons_of_mem _ (List.mem_append_left _ (List.mem_append_right _ h9)))
  have f12 := hts (.fieldLink RX7 12 "OrphanChain" "ledger" "LOrphanChain$Ledger;") (List.mem_of_getElem? (i := 1) rfl)
  have k65 := hts (.constant RX7 65 (-100001)) (List.mem_of_getElem? (i := 2) rfl)
  obtain ⟨hR, hW, hs0, hs1⟩ := id hF
  have hn60 := hW.n60
  have hb10 := hW.b10
  have hs8 := hW.s8
  have hhn := hW.hn
  have hcl := cntF_le (loudB s) (nB s)
  refine lv_aload_n hx hb dX7_common_0 rfl (lv_at hl 0 rfl) ?_
  refine va_get (D := dg) (ci := 7) (v := .ref xl) (C := RX7) (T := TX7) (N := 7) hx hb hts in7 hown hK hP 0 rfl rfl 0 (by decide) f12 (fun _ h9 => h9) rfl dX7_common_1 ?_
  refine lv_iload_n hx hb dX7_common_4 rfl (lv_at hl 1 rfl) ?_
  refine call_x (va_runV (As := [.int x]) (rest := []) ⟨hx, hb, hml, hown, hts⟩ (kX1_hasEntry ln dg tq (h0 := xl) (h1 := xlc) (c := c) (s := s) (hR := (by omega)) (hW := (by omega)) (x := x) H.size) (cwV 1 hts gX7_common_X1_hasEntry rfl rfl rfl hdX1_hasEntry ⟨Nat.le_of_ble_eq_true rfl, Nat.le_of_ble_eq_true rfl⟩) (preVR hK hN hP [1, 2] rfl 1 rfl rfl [.int x]) rfl rfl hl.1 rfl (lv_room (Nat.le_of_ble_eq_true rfl)) dX7_common_5 ⟨Nat.le_refl _, Nat.le_refl _⟩) hP hS hA (fun H locs hP hS => ?_)
  refine r_if_eq_b (tgt := 22) hx hb dX7_common_8 (by decide) (fun c8 => ?_) (fun c8 => ?_)
  · skip
    refine lv_ldc hx hb hown k65 dX7_common_22 ?_
    exact hret (-100001) H locs _ ls (by rw [cmR, if_neg (fun z => by rw [c8] at z; cases z.1)]) rfl hS dX7_common_24
  · skip
    refine lv_aload_n hx hb dX7_common_11 rfl (lv_at hl 0 rfl) ?_
    refine va_get (D := dg) (ci := 7) (v := .ref xl) (C := RX7) (T := TX7) (N := 7) hx hb hts in7 hown hK hP 0 rfl rfl 0 (by decide) f12 (fun _ h9 => h9) rfl dX7_common_12 ?_
    refine lv_iload_n hx hb dX7_common_15 rfl (lv_at hl 2 rfl) ?_
    refine call_x (va_runV (As := [.int y]) (rest := []) ⟨hx, hb, hml, hown, hts⟩ (kX1_hasEntry ln dg tq (h0 := xl) (h1 := xlc) (c := c) (s := s) (hR := (by omega)) (hW := (by omega)) (x := y) H.size) (cwV 1 hts gX7_common_X1_hasEntry rfl rfl rfl hdX1_hasEntry ⟨Nat.le_of_ble_eq_true rfl, Nat.le_of_ble_eq_true rfl⟩) (preVR hK hN hP [1, 2] rfl 1 rfl rfl [.int y]) rfl rfl hl.1 rfl (lv_room (Nat.le_of_ble_eq_true rfl)) dX7_common_16 ⟨Nat.le_refl _, Nat.le_refl _⟩) hP hS hA (fun H locs hP hS => ?_)
    refine r_if_ne_b (tgt := 25) hx hb dX7_common_19 (by decide) (fun c19 => ?_) (fun c19 => ?_)
    · skip
      obtain ⟨ek_, hek, rfl⟩ := hasN_t c8
      obtain ⟨fk_, hfk, rfl⟩ := hasN_t c19
      refine lv_aload_n hx hb dX7_common_25 rfl (lv_at hl 0 rfl) ?_
      refine va_get (D := dg) (ci := 7) (v := .ref xl) (C := RX7) (T := TX7) (N := 7) hx hb hts in7 hown hK hP 0 rfl rfl 0 (by decide) f12 (fun _ h9 => h9) rfl dX7_common_26 ?_
      refine lv_iload_n hx hb dX7_common_29 rfl (lv_at hl 1 rfl) ?_
      refine lv_iload_n hx hb dX7_common_30 rfl (lv_at hl 2 rfl) ?_
      refine call_x (va_runV (As := [.int (nI ek_), .int (nI fk_)]) (rest := []) ⟨hx, hb, hml, hown, hts⟩ (kX1_lastShared ln dg tq (h0 := xl) (h1 := xlc) (c := c) (s := s) (hR := (by omega)) (hW := (by omega)) (x := ek_) (y := fk_) (hx := (by omega)) (hy := (by omega)) H.size) (cwV 2 hts gX7_common_X1_lastShared rfl rfl rfl hdX1_lastShared ⟨Nat.le_of_ble_eq_true rfl, Nat.le_of_ble_eq_true rfl⟩) (preVR hK hN hP [1, 2] rfl 1 rfl rfl [.int (nI ek_), .int (nI fk_)]) rfl rfl hl.1 rfl (lv_room (Nat.le_of_ble_eq_true rfl)) dX7_common_31 ⟨Nat.le_refl _, Nat.le_refl _⟩) hP hS hA (fun H locs hP hS => ?_)
      exact hret (nI (meet s ek_ fk_)) H locs _ ls (by rw [cmR, if_pos ⟨c8, c19⟩, cl_n (by omega), cl_n (by omega)]) rfl hS dX7_common_34
    · skip
      refine lv_ldc hx hb hown k65 dX7_common_22 ?_
      exact hret (-100001) H locs _ ls (by rw [cmR, if_neg (fun z => by rw [c19] at z; cases z.2)]) rfl hS dX7_common_24
theorem hdX7_canForge : yX7_canForge.cls = RX7 ∧ yX7_canForge.cls ≠ "java/lang/invoke/MethodHandle" ∧ yX7_canForge.cls ≠ "java/lang/invoke/VarHandle" ∧ (parseMethodDescriptor yX7_canForge.desc).map (fun d => d.parameters.length) = some 2 := by decide +kernel
set_option maxHeartbeats 4000000 in
set_option maxRecDepth 100000 in
theorem kX7_canForge (ln : Launch) (dg : va_G) (tq : ClassId × ClassId) (x0 xl xh xt xp xo xu xw : Nat)(xlc : Nat) (c : Row) (s : Row) (hF : FS s c)(xus : Nat) (uf : Row) (ek_ ak_ : Nat) (hek : ek_ < nE s) (hek0 : 0 < ek_) (hak : ak_ ≤ 999) : MW ln yX7_canForge wsX7_canForge (rmm 3 70) dg tq [.ref x0, .int (nI ek_), .int (nI ak_)] [(x0, .inr (7, [.ref xl, .ref xh, .ref xt, .ref xp, .ref xo, .ref xu, .ref xw])), (xl, .inr (1, [.ref xlc])), (xlc, .inl (tq.1, 1473, .inl c)), (xu, .inr (5, [.ref xus])), (xus, .inl (tq.1, 6, .inl uf))] (fun (r : Int32) (u : Row) => r = (bI (fgOK s ek_ (nI ak_)))) (fun u => [(x0, .inr (7, [.ref xl, .ref xh, .ref xt, .ref xp, .ref xo, .ref xu, .ref xw])), (xl, .inr (1, [.ref xlc])), (xlc, .inl (tq.1, 1473, .inl c)), (xu, .inr (5, [.ref xus])), (xus, .inl (tq.1, 6, .inl u))]) := by
  refine MW.enter cX7_canForge 6 .boolean (by decide) rfl rfl (Nat.le_of_ble_eq_true rfl) ?_
  intro pP eE sS mM aA bB mT cC QQ AA hA hAT hret H locs hP hD hS ls hl
  obtain ⟨hx, hb, hml, hown, hts, hK, hN⟩ := hAT
  have hown : sS.vm.findClass RX7 = some mM.cls := hown
  have hl : lv_has ls 6 [(0, .ref x0), (1, .int (nI ek_)), (2, .int (nI ak_))] := hl
  have in7 : ∀ w ∈ u_ws RX7 TX7 7, w ∈ wsX7_canForge := (fun _ h9 => List.mem_cons_of_mem _ (List.mem_append_left _ (List.mem_append_left _ (List.mem_append_right _ h9))))
  have f12 := hts (.fieldLink RX7 12 "OrphanChain" "ledger" "LOrphanChain$Ledger;") (List.mem_of_getElem? (i := 1) rfl)
  have f47 := hts (.fieldLink RX7 47 "OrphanChain" "purse" "LOrphanChain$Purse;") (List.mem_of_getElem? (i := 2) rfl)
  obtain ⟨hR, hW, hs0, hs1⟩ := id hF
  have hn60 := hW.n60
  have hb10 := hW.b10
  have hs8 := hW.s8
  have hhn := hW.hn
  have hcl := cntF_le (loudB s) (nB s)
  have h1l := hW.a1l hek
  have h2l := hW.a2l hek
  have am0 := hW.am0 hek
  have am9 := hW.am9 hek
  refine lv_aload_n hx hb dX7_canForge_0 rfl (lv_at hl 0 rfl) ?_
  refine va_get (D := dg) (ci := 7) (v := .ref xl) (C := RX7) (T := TX7) (N := 7) hx hb hts in7 hown hK hP 0 rfl rfl 0 (by decide) f12 (fun _ h9 => h9) rfl dX7_canForge_1 ?_
  refine lv_iload_n hx hb dX7_canForge_4 rfl (lv_at hl 1 rfl) ?_
  refine lv_iconst (v := (nI 0)) hx hb dX7_canForge_5 (by decide) ?_
  refine call_x (va_runV (As := [.int (nI ek_), .int (nI 0)]) (rest := []) ⟨hx, hb, hml, hown, hts⟩ (kX1_ofEntry ln dg tq (h0 := xl) (h1 := xlc) (c := c) (e := ek_) (f := 0) (he := (by omega)) (hf := (by omega)) H.size) (cwV 2 hts gX7_canForge_X1_ofEntry rfl rfl rfl hdX1_ofEntry ⟨Nat.le_of_ble_eq_true rfl, Nat.le_of_ble_eq_true rfl⟩) (preVR hK hN hP [1, 2] rfl 1 rfl rfl [.int (nI ek_), .int (nI 0)]) rfl rfl hl.1 rfl (lv_room (Nat.le_of_ble_eq_true rfl)) dX7_canForge_6 ⟨Nat.le_refl _, Nat.le_refl _⟩) hP hS hA (fun H locs hP hS => ?_)
  refine r_top (show (c (5 + ek_ * 7 + 0)) = (me s ek_ 1) from hR.xkd (by omega)) ?_
  refine lv_istore_n (lv' := [(3, .int (me s ek_ 1)), (0, .ref x0), (1, .int (nI ek_)), (2, .int (nI ak_))]) hx hb dX7_canForge_9 rfl hl (by decide) rfl (fun ls hl => ?_)
  refine lv_iload_n hx hb dX7_canForge_10 rfl (lv_at hl 3 rfl) ?_
  refine lv_aload_n hx hb dX7_canForge_11 rfl (lv_at hl 1 rfl) ?_
  refine va_get (D := dg) (ci := 7) (v := .ref xl) (C := RX7) (T := TX7) (N := 7) hx hb hts in7 hown hK hP 0 rfl rfl 0 (by decide) f12 (fun _ h9 => h9) rfl dX7_canForge_12 ?_
  refine lv_iload_n hx hb dX7_canForge_15 rfl (lv_at hl 2 rfl) ?_
  refine lv_iconst (v := (nI 3)) hx hb dX7_canForge_16 (by decide) ?_
  refine call_x (va_runV (As := [.int (nI ek_), .int (nI 3)]) (rest := [.int (nI ak_)]) ⟨hx, hb, hml, hown, hts⟩ (kX1_ofEntry ln dg tq (h0 := xl) (h1 := xlc) (c := c) (e := ek_) (f := 3) (he := (by omega)) (hf := (by omega)) H.size) (cwV 2 hts gX7_canForge_X1_ofEntry rfl rfl rfl hdX1_ofEntry ⟨Nat.le_of_ble_eq_true rfl, Nat.le_of_ble_eq_true rfl⟩) (preVR hK hN hP [1, 2] rfl 1 rfl rfl [.int (nI ek_), .int (nI 3)]) rfl rfl hl.1 rfl (lv_room (Nat.le_of_ble_eq_true rfl)) dX7_canForge_17 ⟨Nat.le_refl _, Nat.le_refl _⟩) hP hS hA (fun H locs hP hS => ?_)
  refine r_top (show (c (5 + ek_ * 7 + 3)) = (me s ek_ 4) from hR.xam (by omega)) ?_
  refine lv_isub hx hb dX7_canForge_20 ?_
  refine r_top (show ((nI ak_) - (me s ek_ 4)) = (iI (((ak_ : Nat) : Int) - am s ek_)) from by rw [am_iI, nI_iI, iI_sub]) ?_
  refine lv_istore (lv' := [(4, .int (iI (((ak_ : Nat) : Int) - am s ek_))), (3, .int (me s ek_ 1)), (0, .ref x0), (1, .int (nI ek_)), (2, .int (nI ak_))]) hx hb dX7_canForge_21 hl (by decide) rfl (fun ls hl => ?_)
  refine lv_iload_n hx hb dX7_canForge_23 rfl (lv_at hl 3 rfl) ?_
  refine lv_istore (lv' := [(5, .int (nI ek_)), (4, .int (iI (((ak_ : Nat) : Int) - am s ek_))), (3, .int (me s ek_ 1)), (0, .ref x0), (1, .int (nI ek_)), (2, .int (nI ak_))]) hx hb dX7_canForge_24 hl (by decide) rfl (fun ls hl => ?_)
  have loop26 : ∀ (fu : Nat) (p_ : Nat) (f_ : Row) (H : Heap) (locs : List Loc) (ls : Array Slot), (ek_ ≤ p_ ∧ p_ ≤ nE s ∧ fgOK s ek_ (nI ak_) = allF (fun x => !onP s ek_ x || chkB s ek_ ((ak_ : Int) - am s ek_) x) p_ (nE s - p_)) → nE s - p_ < fu → va_P dg vwCl [(x0, .inr (7, [.ref xl, .ref xh, .ref xt, .ref xp, .ref xo, .ref xu, .ref xw])), (xl, .inr (1, [.ref xlc])), (xlc, .inl (tq.1, 1473, .inl c)), (xu, .inr (5, [.ref xus])), (xus, .inl (tq.1, 6, .inl f_))] H → va_D AA [(x0, .inr (7, [.ref xl, .ref xh, .ref xt, .ref xp, .ref xo, .ref xu, .ref xw])), (xl, .inr (1, [.ref xlc])), (xlc, .inl (tq.1, 1473, .inl c)), (xu, .inr (5, [.ref xus])), (xus, .inl (tq.1, 6, .inl f_))] → va_S AA sS.heap H locs → lv_has ls 6 [(0, .ref x0), (1, .int (nI ek_)), (2, .int (nI ak_)), (3, .int (me s ek_ 1)), (4, .int (iI (((ak_ : Nat) : Int) - am s ek_))), (5, .int (nI p_))] → W pP ln eE (rmm 3 70) sS mM aA bB mT cC H locs 0 0 QQ (F0 mM 26 ls []) := by
    intro fu
    induction fu with
    | zero => intro p_ f_ H locs ls _ hm; exact absurd hm (Nat.not_lt_zero _)
    | succ fu ih26 =>
      intro p_ f_ H locs ls hinv hm hP hD hS hl
      obtain ⟨hi1, hi2, hi3⟩ := hinv
      refine lv_iload hx hb dX7_canForge_26 (lv_at hl 5 rfl) ?_
      refine lv_aload_n hx hb dX7_canForge_28 rfl (lv_at hl 0 rfl) ?_
      refine va_get (D := dg) (ci := 7) (v := .ref xl) (C := RX7) (T := TX7) (N := 7) hx hb hts in7 hown hK hP 0 rfl rfl 0 (by decide) f12 (fun _ h9 => h9) rfl dX7_canForge_29 ?_
      refine lv_iconst (v := (nI 0)) hx hb dX7_canForge_32 (by decide) ?_
      refine call_x (va_runV (As := [.int (nI 0)]) (rest := [.int (nI p_)]) ⟨hx, hb, hml, hown, hts⟩ (kX1_number ln dg tq (h0 := xl) (h1 := xlc) (c := c) (k := 0) (hk := (by omega)) H.size) (cwV 1 hts gX7_canForge_X1_number rfl rfl rfl hdX1_number ⟨Nat.le_of_ble_eq_true rfl, Nat.le_of_ble_eq_true rfl⟩) (preVR hK hN hP [1, 2] rfl 1 rfl rfl [.int (nI 0)]) rfl rfl hl.1 rfl (lv_room (Nat.le_of_ble_eq_true rfl)) dX7_canForge_33 ⟨Nat.le_refl _, Nat.le_refl _⟩) hP hS hA (fun H locs hP hS => ?_)
      refine r_top (show (c 0) = (nI (nE s)) from (hR.nn hW)) ?_
      refine r_icmp_ge (tgt := 133) hx hb (nI_tI (by omega)) (nI_tI (by omega)) dX7_canForge_36 (by decide) (fun c36 => ?_) (fun c36 => ?_)
      · skip
        refine lv_iconst (v := (nI 1)) hx hb dX7_canForge_133 (by decide) ?_
        exact hret (nI 1) (f_) H locs _ ls (by rw [hi3, show nE s - p_ = 0 by omega]; rfl) rfl (hP.sub [0, 1, 2, 3, 4] rfl) (hD.sub [0, 1, 2, 3, 4] (by decide) rfl) hS dX7_canForge_134
      · skip
        refine lv_aload_n hx hb dX7_canForge_39 rfl (lv_at hl 0 rfl) ?_
        refine va_get (D := dg) (ci := 7) (v := .ref xl) (C := RX7) (T := TX7) (N := 7) hx hb hts in7 hown hK hP 0 rfl rfl 0 (by decide) f12 (fun _ h9 => h9) rfl dX7_canForge_40 ?_
        refine lv_iload_n hx hb dX7_canForge_43 rfl (lv_at hl 1 rfl) ?_
        refine lv_iload hx hb dX7_canForge_44 (lv_at hl 5 rfl) ?_
        refine call_x (va_runV (As := [.int (nI ek_), .int (nI p_)]) (rest := []) ⟨hx, hb, hml, hown, hts⟩ (kX1_isOnPath ln dg tq (h0 := xl) (h1 := xlc) (c := c) (s := s) (hR := (by omega)) (hW := (by omega)) (x := ek_) (y := p_) (hx := (by omega)) (hy := (by omega)) H.size) (cwV 2 hts gX7_canForge_X1_isOnPath rfl rfl rfl hdX1_isOnPath ⟨Nat.le_of_ble_eq_true rfl, Nat.le_of_ble_eq_true rfl⟩) (preVR hK hN hP [1, 2] rfl 1 rfl rfl [.int (nI ek_), .int (nI p_)]) rfl rfl hl.1 rfl (lv_room (Nat.le_of_ble_eq_true rfl)) dX7_canForge_46 ⟨Nat.le_refl _, Nat.le_refl _⟩) hP hS hA (fun H locs hP hS => ?_)
        refine r_if_eq_b (tgt := 127) hx hb dX7_canForge_49 (by decide) (fun c49 => ?_) (fun c49 => ?_)
        · skip
          refine lv_iinc (v := (nI (p_ + 1))) (lv' := [(5, .int (nI (p_ + 1))), (0, .ref x0), (1, .int (nI ek_)), (2, .int (nI ak_)), (3, .int (me s ek_ 1)), (4, .int (iI (((ak_ : Nat) : Int) - am s ek_)))]) hx hb dX7_canForge_127 hl (k := 5) rfl (nI_add _ _) (by decide) rfl (fun ls hl => ?_)
          refine lv_goto (tgt := 26) hx hb dX7_canForge_130 (by decide) ?_
          exact ih26 (p_ + 1) f_ H locs ls (⟨by omega, by omega, by rw [hi3, show nE s - p_ = (nE s - (p_ + 1)) + 1 by omega, allF, c49]; rfl⟩) (by omega) (hP.sub [0, 1, 2, 3, 4] rfl) (hD.sub [0, 1, 2, 3, 4] (by decide) rfl) hS (lv_sub hl [1, 2, 3, 4, 5, 0] rfl)
        · skip
          refine lv_aload_n hx hb dX7_canForge_52 rfl (lv_at hl 0 rfl) ?_
          refine va_get (D := dg) (ci := 7) (v := .ref xu) (C := RX7) (T := TX7) (N := 7) hx hb hts in7 hown hK hP 0 rfl rfl 5 (by decide) f47 (fun _ h9 => h9) rfl dX7_canForge_53 ?_
          refine lv_aload_n hx hb dX7_canForge_56 rfl (lv_at hl 0 rfl) ?_
          refine va_get (D := dg) (ci := 7) (v := .ref xl) (C := RX7) (T := TX7) (N := 7) hx hb hts in7 hown hK hP 0 rfl rfl 0 (by decide) f12 (fun _ h9 => h9) rfl dX7_canForge_57 ?_
          refine lv_iload hx hb dX7_canForge_60 (lv_at hl 5 rfl) ?_
          refine call_v (wr := [(x0, .inr (7, [.ref xl, .ref xh, .ref xt, .ref xp, .ref xo, .ref xu, .ref xw]))]) (va_runV (As := [.ref xl, .int (nI p_)]) (rest := []) ⟨hx, hb, hml, hown, hts⟩ (kX5_fill ln dg tq (u0 := xu) (u1 := xus) (f := f_) (h0 := xl) (h1 := xlc) (c := c) (s := s) (hR := (by omega)) (hW := (by omega)) (leaf := p_) (hl0 := (by omega)) H.size) (cwV 2 hts gX7_canForge_X5_fill rfl rfl rfl hdX5_fill ⟨Nat.le_of_ble_eq_true rfl, Nat.le_of_ble_eq_true rfl⟩) (preVB hK hN hP hD [3, 4, 1, 2] rfl rfl rfl 3 rfl rfl [.ref xl, .int (nI p_)]) rfl rfl hl.1 rfl (lv_room (Nat.le_of_ble_eq_true rfl)) dX7_canForge_62 ⟨Nat.le_refl _, Nat.le_refl _⟩) hP hD hS hA [3, 4, 1, 2] [0] rfl rfl (by decide) (by decide) (fun u62 H locs hw62 hP hD hS => ?_)
          obtain ⟨g62, rfl⟩ : ∃ z, z = u62 := ⟨_, rfl⟩
          have hP : va_P dg vwCl [(x0, .inr (7, [.ref xl, .ref xh, .ref xt, .ref xp, .ref xo, .ref xu, .ref xw])), (xu, .inr (5, [.ref xus])), (xus, .inl (tq.1, 6, .inl g62)), (xl, .inr (1, [.ref xlc])), (xlc, .inl (tq.1, 1473, .inl c))] H := hP
          have hD : va_D AA [(x0, .inr (7, [.ref xl, .ref xh, .ref xt, .ref xp, .ref xo, .ref xu, .ref xw])), (xu, .inr (5, [.ref xus])), (xus, .inl (tq.1, 6, .inl g62)), (xl, .inr (1, [.ref xlc])), (xlc, .inl (tq.1, 1473, .inl c))] := hD
          have hbd1 := bal_bd hW (e := p_) (by omega) _ h1l
          have hbd2 := bal_bd hW (e := p_) (by omega) _ h2l
          refine lv_iload_n hx hb dX7_canForge_65 rfl (lv_at hl 3 rfl) ?_
          refine call_x (va_runS (As := [.int (me s ek_ 1)]) (rest := []) ⟨hx, hb, hml, hown, hts⟩ (kX7_brings ln dg tq (v := (me s ek_ 1)) H.size) (va_cwS 1 hts gX7_canForge_X7_brings rfl rfl rfl hdX7_brings.2 ⟨Nat.le_of_ble_eq_true rfl, Nat.le_of_ble_eq_true rfl⟩) (preS0 hK hN [.int (me s ek_ 1)]) rfl rfl hl.1 rfl (lv_room (Nat.le_of_ble_eq_true rfl)) dX7_canForge_66 ⟨Nat.le_refl _, Nat.le_refl _⟩) hP hS hA (fun H locs hP hS => ?_)
          refine r_top (show (bI (decide (1 ≤ (me s ek_ 1).toInt ∧ (me s ek_ 1).toInt ≤ 3))) = (bI (bg s ek_)) from rfl) ?_
          refine r_if_eq_b (tgt := 96) hx hb dX7_canForge_69 (by decide) (fun c69 => ?_) (fun c69 => ?_)
          · skip
            refine lv_iload_n hx hb dX7_canForge_96 rfl (lv_at hl 3 rfl) ?_
            refine call_x (va_runS (As := [.int (me s ek_ 1)]) (rest := []) ⟨hx, hb, hml, hown, hts⟩ (kX7_takes ln dg tq (v := (me s ek_ 1)) H.size) (va_cwS 1 hts gX7_canForge_X7_takes rfl rfl rfl hdX7_takes.2 ⟨Nat.le_of_ble_eq_true rfl, Nat.le_of_ble_eq_true rfl⟩) (preS0 hK hN [.int (me s ek_ 1)]) rfl rfl hl.1 rfl (lv_room (Nat.le_of_ble_eq_true rfl)) dX7_canForge_97 ⟨Nat.le_refl _, Nat.le_refl _⟩) hP hS hA (fun H locs hP hS => ?_)
            refine r_top (show (bI (decide ((me s ek_ 1).toInt = 2 ∨ (me s ek_ 1).toInt = 3))) = (bI (tk s ek_)) from rfl) ?_
            refine r_if_eq_b (tgt := 127) hx hb dX7_canForge_100 (by decide) (fun c100 => ?_) (fun c100 => ?_)
            · skip
              refine lv_iinc (v := (nI (p_ + 1))) (lv' := [(5, .int (nI (p_ + 1))), (0, .ref x0), (1, .int (nI ek_)), (2, .int (nI ak_)), (3, .int (me s ek_ 1)), (4, .int (iI (((ak_ : Nat) : Int) - am s ek_)))]) hx hb dX7_canForge_127 hl (k := 5) rfl (nI_add _ _) (by decide) rfl (fun ls hl => ?_)
              refine lv_goto (tgt := 26) hx hb dX7_canForge_130 (by decide) ?_
              exact ih26 (p_ + 1) g62 H locs ls (⟨by omega, by omega, by rw [hi3, show nE s - p_ = (nE s - (p_ + 1)) + 1 by omega, allF, c49]; unfold chkB; rw [c69, c100]; rfl⟩) (by omega) (hP.sub [0, 3, 4, 1, 2] rfl) (hD.sub [0, 3, 4, 1, 2] (by decide) rfl) hS (lv_sub hl [1, 2, 3, 4, 5, 0] rfl)
            · skip
              refine lv_aload_n hx hb dX7_canForge_103 rfl (lv_at hl 0 rfl) ?_
              refine va_get (D := dg) (ci := 7) (v := .ref xu) (C := RX7) (T := TX7) (N := 7) hx hb hts in7 hown hK hP 0 rfl rfl 5 (by decide) f47 (fun _ h9 => h9) rfl dX7_canForge_104 ?_
              refine lv_aload_n hx hb dX7_canForge_107 rfl (lv_at hl 0 rfl) ?_
              refine va_get (D := dg) (ci := 7) (v := .ref xl) (C := RX7) (T := TX7) (N := 7) hx hb hts in7 hown hK hP 0 rfl rfl 0 (by decide) f12 (fun _ h9 => h9) rfl dX7_canForge_108 ?_
              refine lv_iload_n hx hb dX7_canForge_111 rfl (lv_at hl 1 rfl) ?_
              refine lv_iconst (v := (nI 1)) hx hb dX7_canForge_112 (by decide) ?_
              refine call_x (va_runV (As := [.int (nI ek_), .int (nI 1)]) (rest := [.ref xu]) ⟨hx, hb, hml, hown, hts⟩ (kX1_ofEntry ln dg tq (h0 := xl) (h1 := xlc) (c := c) (e := ek_) (f := 1) (he := (by omega)) (hf := (by omega)) H.size) (cwV 2 hts gX7_canForge_X1_ofEntry rfl rfl rfl hdX1_ofEntry ⟨Nat.le_of_ble_eq_true rfl, Nat.le_of_ble_eq_true rfl⟩) (preVR hK hN hP [3, 4] rfl 3 rfl rfl [.int (nI ek_), .int (nI 1)]) rfl rfl hl.1 rfl (lv_room (Nat.le_of_ble_eq_true rfl)) dX7_canForge_113 ⟨Nat.le_refl _, Nat.le_refl _⟩) hP hS hA (fun H locs hP hS => ?_)
              refine r_top (show (c (5 + ek_ * 7 + 1)) = (nI (a1 s ek_)) from hR.A1 hW (by omega)) ?_
              refine call_x (va_runV (As := [.int (nI (a1 s ek_))]) (rest := []) ⟨hx, hb, hml, hown, hts⟩ (kX5_sum ln dg tq (u0 := xu) (u1 := xus) (f := g62) (a := a1 s ek_) (ha := (by omega)) H.size) (cwV 1 hts gX7_canForge_X5_sum rfl rfl rfl hdX5_sum ⟨Nat.le_of_ble_eq_true rfl, Nat.le_of_ble_eq_true rfl⟩) (preVR hK hN hP [1, 2] rfl 1 rfl rfl [.int (nI (a1 s ek_))]) rfl rfl hl.1 rfl (lv_room (Nat.le_of_ble_eq_true rfl)) dX7_canForge_116 ⟨Nat.le_refl _, Nat.le_refl _⟩) hP hS hA (fun H locs hP hS => ?_)
              refine r_top (show (g62 (a1 s ek_)) = (iI (bal s p_ (a1 s ek_))) from hw62 _ h1l) ?_
              refine lv_iload hx hb dX7_canForge_119 (lv_at hl 4 rfl) ?_
              refine r_isub_z hx hb rfl rfl dX7_canForge_121 ?_
              refine r_if_ge (tgt := 127) hx hb (iI_toInt (by omega) (by omega)) dX7_canForge_122 (by decide) (fun c122 => ?_) (fun c122 => ?_)
              · skip
                refine lv_iinc (v := (nI (p_ + 1))) (lv' := [(5, .int (nI (p_ + 1))), (0, .ref x0), (1, .int (nI ek_)), (2, .int (nI ak_)), (3, .int (me s ek_ 1)), (4, .int (iI (((ak_ : Nat) : Int) - am s ek_)))]) hx hb dX7_canForge_127 hl (k := 5) rfl (nI_add _ _) (by decide) rfl (fun ls hl => ?_)
                refine lv_goto (tgt := 26) hx hb dX7_canForge_130 (by decide) ?_
                exact ih26 (p_ + 1) g62 H locs ls (⟨by omega, by omega, by rw [hi3, show nE s - p_ = (nE s - (p_ + 1)) + 1 by omega, allF, c49]; unfold chkB; rw [c69, c100, decide_eq_true c122]; rfl⟩) (by omega) (hP.sub [0, 3, 4, 1, 2] rfl) (hD.sub [0, 3, 4, 1, 2] (by decide) rfl) hS (lv_sub hl [1, 2, 3, 4, 5, 0] rfl)
              · skip
                refine lv_iconst (v := (nI 0)) hx hb dX7_canForge_125 (by decide) ?_
                exact hret (nI 0) (g62) H locs _ ls (by rw [hi3, show nE s - p_ = (nE s - (p_ + 1)) + 1 by omega, allF, c49]; unfold chkB; rw [c100, decide_eq_false (show ¬ (0 ≤ bal s p_ (a1 s ek_) - (((ak_ : Nat) : Int) - am s ek_)) by omega)]; simp; rfl) rfl (hP.sub [0, 3, 4, 1, 2] rfl) (hD.sub [0, 3, 4, 1, 2] (by decide) rfl) hS dX7_canForge_126
          · skip
            refine lv_aload_n hx hb dX7_canForge_72 rfl (lv_at hl 0 rfl) ?_
            refine va_get (D := dg) (ci := 7) (v := .ref xu) (C := RX7) (T := TX7) (N := 7) hx hb hts in7 hown hK hP 0 rfl rfl 5 (by decide) f47 (fun _ h9 => h9) rfl dX7_canForge_73 ?_
            refine lv_aload_n hx hb dX7_canForge_76 rfl (lv_at hl 0 rfl) ?_
            refine va_get (D := dg) (ci := 7) (v := .ref xl) (C := RX7) (T := TX7) (N := 7) hx hb hts in7 hown hK hP 0 rfl rfl 0 (by decide) f12 (fun _ h9 => h9) rfl dX7_canForge_77 ?_
            refine lv_iload_n hx hb dX7_canForge_80 rfl (lv_at hl 1 rfl) ?_
            refine lv_iconst (v := (nI 2)) hx hb dX7_canForge_81 (by decide) ?_
            refine call_x (va_runV (As := [.int (nI ek_), .int (nI 2)]) (rest := [.ref xu]) ⟨hx, hb, hml, hown, hts⟩ (kX1_ofEntry ln dg tq (h0 := xl) (h1 := xlc) (c := c) (e := ek_) (f := 2) (he := (by omega)) (hf := (by omega)) H.size) (cwV 2 hts gX7_canForge_X1_ofEntry rfl rfl rfl hdX1_ofEntry ⟨Nat.le_of_ble_eq_true rfl, Nat.le_of_ble_eq_true rfl⟩) (preVR hK hN hP [3, 4] rfl 3 rfl rfl [.int (nI ek_), .int (nI 2)]) rfl rfl hl.1 rfl (lv_room (Nat.le_of_ble_eq_true rfl)) dX7_canForge_82 ⟨Nat.le_refl _, Nat.le_refl _⟩) hP hS hA (fun H locs hP hS => ?_)
            refine r_top (show (c (5 + ek_ * 7 + 2)) = (nI (a2 s ek_)) from hR.A2 hW (by omega)) ?_
            refine call_x (va_runV (As := [.int (nI (a2 s ek_))]) (rest := []) ⟨hx, hb, hml, hown, hts⟩ (kX5_sum ln dg tq (u0 := xu) (u1 := xus) (f := g62) (a := a2 s ek_) (ha := (by omega)) H.size) (cwV 1 hts gX7_canForge_X5_sum rfl rfl rfl hdX5_sum ⟨Nat.le_of_ble_eq_true rfl, Nat.le_of_ble_eq_true rfl⟩) (preVR hK hN hP [1, 2] rfl 1 rfl rfl [.int (nI (a2 s ek_))]) rfl rfl hl.1 rfl (lv_room (Nat.le_of_ble_eq_true rfl)) dX7_canForge_85 ⟨Nat.le_refl _, Nat.le_refl _⟩) hP hS hA (fun H locs hP hS => ?_)
            refine r_top (show (g62 (a2 s ek_)) = (iI (bal s p_ (a2 s ek_))) from hw62 _ h2l) ?_
            refine lv_iload hx hb dX7_canForge_88 (lv_at hl 4 rfl) ?_
            refine r_iadd_z hx hb rfl rfl dX7_canForge_90 ?_
            refine r_if_ge (tgt := 96) hx hb (iI_toInt (by omega) (by omega)) dX7_canForge_91 (by decide) (fun c91 => ?_) (fun c91 => ?_)
            · skip
              refine lv_iload_n hx hb dX7_canForge_96 rfl (lv_at hl 3 rfl) ?_
              refine call_x (va_runS (As := [.int (me s ek_ 1)]) (rest := []) ⟨hx, hb, hml, hown, hts⟩ (kX7_takes ln dg tq (v := (me s ek_ 1)) H.size) (va_cwS 1 hts gX7_canForge_X7_takes rfl rfl rfl hdX7_takes.2 ⟨Nat.le_of_ble_eq_true rfl, Nat.le_of_ble_eq_true rfl⟩) (preS0 hK hN [.int (me s ek_ 1)]) rfl rfl hl.1 rfl (lv_room (Nat.le_of_ble_eq_true rfl)) dX7_canForge_97 ⟨Nat.le_refl _, Nat.le_refl _⟩) hP hS hA (fun H locs hP hS => ?_)
              refine r_top (show (bI (decide ((me s ek_ 1).toInt = 2 ∨ (me s ek_ 1).toInt = 3))) = (bI (tk s ek_)) from rfl) ?_
              refine r_if_eq_b (tgt := 127) hx hb dX7_canForge_100 (by decide) (fun c100 => ?_) (fun c100 => ?_)
              · skip
                refine lv_iinc (v := (nI (p_ + 1))) (lv' := [(5, .int (nI (p_ + 1))), (0, .ref x0), (1, .int (nI ek_)), (2, .int (nI ak_)), (3, .int (me s ek_ 1)), (4, .int (iI (((ak_ : Nat) : Int) - am s ek_)))]) hx hb dX7_canForge_127 hl (k := 5) rfl (nI_add _ _) (by decide) rfl (fun ls hl => ?_)
                refine lv_goto (tgt := 26) hx hb dX7_canForge_130 (by decide) ?_
                exact ih26 (p_ + 1) g62 H locs ls (⟨by omega, by omega, by rw [hi3, show nE s - p_ = (nE s - (p_ + 1)) + 1 by omega, allF, c49]; unfold chkB; rw [c69, c100, decide_eq_true c91]; rfl⟩) (by omega) (hP.sub [0, 3, 4, 1, 2] rfl) (hD.sub [0, 3, 4, 1, 2] (by decide) rfl) hS (lv_sub hl [1, 2, 3, 4, 5, 0] rfl)
              · skip
                refine lv_aload_n hx hb dX7_canForge_103 rfl (lv_at hl 0 rfl) ?_
                refine va_get (D := dg) (ci := 7) (v := .ref xu) (C := RX7) (T := TX7) (N := 7) hx hb hts in7 hown hK hP 0 rfl rfl 5 (by decide) f47 (fun _ h9 => h9) rfl dX7_canForge_104 ?_
                refine lv_aload_n hx hb dX7_canForge_107 rfl (lv_at hl 0 rfl) ?_
                refine va_get (D := dg) (ci := 7) (v := .ref xl) (C := RX7) (T := TX7) (N := 7) hx hb hts in7 hown hK hP 0 rfl rfl 0 (by decide) f12 (fun _ h9 => h9) rfl dX7_canForge_108 ?_
                refine lv_iload_n hx hb dX7_canForge_111 rfl (lv_at hl 1 rfl) ?_
                refine lv_iconst (v := (nI 1)) hx hb dX7_canForge_112 (by decide) ?_
                refine call_x (va_runV (As := [.int (nI ek_), .int (nI 1)]) (rest := [.ref xu]) ⟨hx, hb, hml, hown, hts⟩ (kX1_ofEntry ln dg tq (h0 := xl) (h1 := xlc) (c := c) (e := ek_) (f := 1) (he := (by omega)) (hf := (by omega)) H.size) (cwV 2 hts gX7_canForge_X1_ofEntry rfl rfl rfl hdX1_ofEntry ⟨Nat.le_of_ble_eq_true rfl, Nat.le_of_ble_eq_true rfl⟩) (preVR hK hN hP [3, 4] rfl 3 rfl rfl [.int (nI ek_), .int (nI 1)]) rfl rfl hl.1 rfl (lv_room (Nat.le_of_ble_eq_true rfl)) dX7_canForge_113 ⟨Nat.le_refl _, Nat.le_refl _⟩) hP hS hA (fun H locs hP hS => ?_)
                refine r_top (show (c (5 + ek_ * 7 + 1)) = (nI (a1 s ek_)) from hR.A1 hW (by omega)) ?_
                refine call_x (va_runV (As := [.int (nI (a1 s ek_))]) (rest := []) ⟨hx, hb, hml, hown, hts⟩ (kX5_sum ln dg tq (u0 := xu) (u1 := xus) (f := g62) (a := a1 s ek_) (ha := (by omega)) H.size) (cwV 1 hts gX7_canForge_X5_sum rfl rfl rfl hdX5_sum ⟨Nat.le_of_ble_eq_true rfl, Nat.le_of_ble_eq_true rfl⟩) (preVR hK hN hP [1, 2] rfl 1 rfl rfl [.int (nI (a1 s ek_))]) rfl rfl hl.1 rfl (lv_room (Nat.le_of_ble_eq_true rfl)) dX7_canForge_116 ⟨Nat.le_refl _, Nat.le_refl _⟩) hP hS hA (fun H locs hP hS => ?_)
                refine r_top (show (g62 (a1 s ek_)) = (iI (bal s p_ (a1 s ek_))) from hw62 _ h1l) ?_
                refine lv_iload hx hb dX7_canForge_119 (lv_at hl 4 rfl) ?_
                refine r_isub_z hx hb rfl rfl dX7_canForge_121 ?_
                refine r_if_ge (tgt := 127) hx hb (iI_toInt (by omega) (by omega)) dX7_canForge_122 (by decide) (fun c122 => ?_) (fun c122 => ?_)
                · skip
                  refine lv_iinc (v := (nI (p_ + 1))) (lv' := [(5, .int (nI (p_ + 1))), (0, .ref x0), (1, .int (nI ek_)), (2, .int (nI ak_)), (3, .int (me s ek_ 1)), (4, .int (iI (((ak_ : Nat) : Int) - am s ek_)))]) hx hb dX7_canForge_127 hl (k := 5) rfl (nI_add _ _) (by decide) rfl (fun ls hl => ?_)
                  refine lv_goto (tgt := 26) hx hb dX7_canForge_130 (by decide) ?_
                  exact ih26 (p_ + 1) g62 H locs ls (⟨by omega, by omega, by rw [hi3, show nE s - p_ = (nE s - (p_ + 1)) + 1 by omega, allF, c49]; unfold chkB; rw [c69, c100, decide_eq_true c91, decide_eq_true c122]; rfl⟩) (by omega) (hP.sub [0, 3, 4, 1, 2] rfl) (hD.sub [0, 3, 4, 1, 2] (by decide) rfl) hS (lv_sub hl [1, 2, 3, 4, 5, 0] rfl)
                · skip
                  refine lv_iconst (v := (nI 0)) hx hb dX7_canForge_125 (by decide) ?_
                  exact hret (nI 0) (g62) H locs _ ls (by rw [hi3, show nE s - p_ = (nE s - (p_ + 1)) + 1 by omega, allF, c49]; unfold chkB; rw [c100, decide_eq_false (show ¬ (0 ≤ bal s p_ (a1 s ek_) - (((ak_ : Nat) : Int) - am s ek_)) by omega)]; simp; rfl) rfl (hP.sub [0, 3, 4, 1, 2] rfl) (hD.sub [0, 3, 4, 1, 2] (by decide) rfl) hS dX7_canForge_126
            · skip
              refine lv_iconst (v := (nI 0)) hx hb dX7_canForge_94 (by decide) ?_
              exact hret (nI 0) (g62) H locs _ ls (by rw [hi3, show nE s - p_ = (nE s - (p_ + 1)) + 1 by omega, allF, c49]; unfold chkB; rw [c69, decide_eq_false (show ¬ (0 ≤ bal s p_ (a2 s ek_) + (((ak_ : Nat) : Int) - am s ek_)) by omega)]; rfl) rfl (hP.sub [0, 3, 4, 1, 2] rfl) (hD.sub [0, 3, 4, 1, 2] (by decide) rfl) hS dX7_canForge_95
  exact loop26 _ ek_ uf H locs ls (⟨by omega, by omega, by rw [fgOK_eq hW hek0 hek, nI_tI (by omega)]⟩) (Nat.lt_succ_self _) (hP.sub [0, 1, 2, 3, 4] rfl) (hD.sub [0, 1, 2, 3, 4] (by decide) rfl) hS (lv_sub hl [3, 4, 5, 2, 1, 0] rfl)
theorem hdX7_forge : yX7_forge.cls = RX7 ∧ yX7_forge.cls ≠ "java/lang/invoke/MethodHandle" ∧ yX7_forge.cls ≠ "java/lang/invoke/VarHandle" ∧ (parseMethodDescriptor yX7_forge.desc).map (fun d => d.parameters.length) = some 2 := by decide +kernel
set_option maxHeartbeats 4000000 in
set_option maxRecDepth 100000 in
theorem kX7_forge (ln : Launch) (dg : va_G) (tq : ClassId × ClassId) (x0 xl xh xt xp xo xu xw : Nat)(xlc : Nat) (c : Row) (s : Row) (hF : FS s c)(xhc : Nat) (st nx : Nat) (hc : Row) (hst : st ≤ 5) (hnx : nx < 5)(xus : Nat) (uf : Row) (x a : Int32) : MW ln yX7_forge wsX7_forge (rmm 4 95) dg tq [.ref x0, .int x, .int a] [(x0, .inr (7, [.ref xl, .ref xh, .ref xt, .ref xp, .ref xo, .ref xu, .ref xw])), (xl, .inr (1, [.ref xlc])), (xlc, .inl (tq.1, 1473, .inl c)), (xh, .inr (0, [.ref xhc, .int (nI st), .int (nI nx)])), (xhc, .inl (tq.1, 7365, .inl hc)), (xu, .inr (5, [.ref xus])), (xus, .inl (tq.1, 6, .inl uf))] (fun (r : Int32) (u : Row × Row × Nat × Nat × Row) => r = (fgR s x a) ∧ (ACT s c hc st nx (fgO s x a) (fgS s (cl x) a) u.1 u.2.1 u.2.2.1 u.2.2.2.1)) (fun u => [(x0, .inr (7, [.ref xl, .ref xh, .ref xt, .ref xp, .ref xo, .ref xu, .ref xw])), (xl, .inr (1, [.ref xlc])), (xlc, .inl (tq.1, 1473, .inl u.1)), (xh, .inr (0, [.ref xhc, .int (nI u.2.2.1), .int (nI u.2.2.2.1)])), (xhc, .inl (tq.1, 7365, .inl u.2.1)), (xu, .inr (5, [.ref xus])), (xus, .inl (tq.1, 6, .inl u.2.2.2.2))]) := by
  refine MW.enter cX7_forge 5 .int (by decide) rfl rfl (Nat.le_of_ble_eq_true rfl) ?_
  intro pP eE sS mM aA bB mT cC QQ AA hA hAT hret H locs hP hD hS ls hl
  obtain ⟨hx, hb, hml, hown, hts, hK, hN⟩ := hAT
  have hown : sS.vm.findClass RX7 = some mM.cls := hown
  have hl : lv_has ls 5 [(0, .ref x0), (1, .int x), (2, .int a)] := hl
  have in7 : ∀ w ∈ u_ws RX7 TX7 7, w ∈ wsX7_forge := (fun _ h9 => List.mem_cons_of_mem _ (List.mem_append_left _ (List.mem_append_left _ (List.mem_append_left _ (List.mem_append_right _ h9)))))
  have k65 := hts (.constant RX7 65 (-100001)) (List.mem_of_getElem? (i := 2) rfl)
  have f12 := hts (.fieldLink RX7 12 "OrphanChain" "ledger" "LOrphanChain$Ledger;") (List.mem_of_getElem? (i := 1) rfl)
  have f19 := hts (.fieldLink RX7 19 "OrphanChain" "history" "LOrphanChain$History;") (List.mem_of_getElem? (i := 4) rfl)
  have k80 := hts (.constant RX7 80 (-100002)) (List.mem_of_getElem? (i := 3) rfl)
  obtain ⟨hR, hW, hs0, hs1⟩ := id hF
  have hn60 := hW.n60
  have hb10 := hW.b10
  have hs8 := hW.s8
  have hhn := hW.hn
  have hcl := cntF_le (loudB s) (nB s)
  refine lv_iload_n hx hb dX7_forge_0 rfl (lv_at hl 1 rfl) ?_
  refine r_if_eq (tgt := 15) hx hb rfl dX7_forge_1 (by decide) (fun c1 => ?_) (fun c1 => ?_)
  · skip
    refine lv_ldc hx hb hown k65 dX7_forge_15 ?_
    exact hret (-100001) (c, hc, st, nx, uf) H locs _ ls (show (-100001) = (fgR s x a) ∧ (ACT s c hc st nx (fgO s x a) (fgS s (cl x) a) c hc st nx) from (have e0 : fgP s x a = false := (by unfold fgP; rw [decide_eq_true (show x = nI 0 from i32_eq c1)]; rfl); ⟨by unfold fgR; rw [e0]; rfl, ACT.no (by unfold fgO; rw [e0]; rfl)⟩)) rfl (hP.sub [0, 1, 2, 3, 4, 5, 6] rfl) (hD.sub [0, 1, 2, 3, 4, 5, 6] (by decide) rfl) hS dX7_forge_17
  · skip
    refine lv_aload_n hx hb dX7_forge_4 rfl (lv_at hl 0 rfl) ?_
    refine va_get (D := dg) (ci := 7) (v := .ref xl) (C := RX7) (T := TX7) (N := 7) hx hb hts in7 hown hK hP 0 rfl rfl 0 (by decide) f12 (fun _ h9 => h9) rfl dX7_forge_5 ?_
    refine lv_iload_n hx hb dX7_forge_8 rfl (lv_at hl 1 rfl) ?_
    refine call_x (va_runV (As := [.int x]) (rest := []) ⟨hx, hb, hml, hown, hts⟩ (kX1_hasEntry ln dg tq (h0 := xl) (h1 := xlc) (c := c) (s := s) (hR := (by omega)) (hW := (by omega)) (x := x) H.size) (cwV 1 hts gX7_forge_X1_hasEntry rfl rfl rfl hdX1_hasEntry ⟨Nat.le_of_ble_eq_true rfl, Nat.le_of_ble_eq_true rfl⟩) (preVR hK hN hP [1, 2] rfl 1 rfl rfl [.int x]) rfl rfl hl.1 rfl (lv_room (Nat.le_of_ble_eq_true rfl)) dX7_forge_9 ⟨Nat.le_refl _, Nat.le_refl _⟩) hP hS hA (fun H locs hP hS => ?_)
    refine r_if_ne_b (tgt := 18) hx hb dX7_forge_12 (by decide) (fun c12 => ?_) (fun c12 => ?_)
    · skip
      have hx0 : x ≠ nI 0 := fun z => c1 (by rw [z]; rfl)
      obtain ⟨ek_, hek, rfl⟩ := hasN_t c12
      have hek0 : 0 < ek_ := Nat.pos_of_ne_zero (fun z => hx0 (by rw [z]))
      refine lv_aload_n hx hb dX7_forge_18 rfl (lv_at hl 0 rfl) ?_
      refine va_get (D := dg) (ci := 7) (v := .ref xl) (C := RX7) (T := TX7) (N := 7) hx hb hts in7 hown hK hP 0 rfl rfl 0 (by decide) f12 (fun _ h9 => h9) rfl dX7_forge_19 ?_
      refine lv_iload_n hx hb dX7_forge_22 rfl (lv_at hl 1 rfl) ?_
      refine lv_iconst (v := (nI 0)) hx hb dX7_forge_23 (by decide) ?_
      refine call_x (va_runV (As := [.int (nI ek_), .int (nI 0)]) (rest := []) ⟨hx, hb, hml, hown, hts⟩ (kX1_ofEntry ln dg tq (h0 := xl) (h1 := xlc) (c := c) (e := ek_) (f := 0) (he := (by omega)) (hf := (by omega)) H.size) (cwV 2 hts gX7_forge_X1_ofEntry rfl rfl rfl hdX1_ofEntry ⟨Nat.le_of_ble_eq_true rfl, Nat.le_of_ble_eq_true rfl⟩) (preVR hK hN hP [1, 2] rfl 1 rfl rfl [.int (nI ek_), .int (nI 0)]) rfl rfl hl.1 rfl (lv_room (Nat.le_of_ble_eq_true rfl)) dX7_forge_24 ⟨Nat.le_refl _, Nat.le_refl _⟩) hP hS hA (fun H locs hP hS => ?_)
      refine r_top (show (c (5 + ek_ * 7 + 0)) = (me s ek_ 1) from hR.xkd (by omega)) ?_
      refine lv_iconst (v := (nI 4)) hx hb dX7_forge_27 (by decide) ?_
      refine r_icmp_ne (tgt := 35) hx hb rfl (nI_tI (by omega)) dX7_forge_28 (by decide) (fun c28 => ?_) (fun c28 => ?_)
      · skip
        refine lv_iconst (v := (nI 0)) hx hb dX7_forge_35 (by decide) ?_
        refine lv_istore_n (lv' := [(3, .int (nI 0)), (0, .ref x0), (1, .int (nI ek_)), (2, .int a)]) hx hb dX7_forge_36 rfl hl (by decide) rfl (fun ls hl => ?_)
        refine lv_iload_n hx hb dX7_forge_37 rfl (lv_at hl 0 rfl) ?_
        refine r_if_eq (tgt := 51) hx hb (nI_tI (by omega)) dX7_forge_38 (by decide) (fun c38 => ?_) (fun c38 => False.elim (by omega))
        refine lv_iload_n hx hb dX7_forge_51 rfl (lv_at hl 3 rfl) ?_
        refine call_x (va_runS (As := [.int a]) (rest := []) ⟨hx, hb, hml, hown, hts⟩ (kX7_isSum ln dg tq (v := a) H.size) (va_cwS 1 hts gX7_forge_X7_isSum rfl rfl rfl hdX7_isSum.2 ⟨Nat.le_of_ble_eq_true rfl, Nat.le_of_ble_eq_true rfl⟩) (preS0 hK hN [.int a]) rfl rfl hl.1 rfl (lv_room (Nat.le_of_ble_eq_true rfl)) dX7_forge_52 ⟨Nat.le_refl _, Nat.le_refl _⟩) hP hS hA (fun H locs hP hS => ?_)
        refine r_if_ne_b (tgt := 61) hx hb dX7_forge_55 (by decide) (fun c55 => ?_) (fun c55 => ?_)
        · skip
          obtain ⟨ak_, ha1, ha2, rfl⟩ := inR_t (by omega) (by omega) c55
          refine lv_aload_n hx hb dX7_forge_61 rfl (lv_at hl 1 rfl) ?_
          refine lv_iload_n hx hb dX7_forge_62 rfl (lv_at hl 2 rfl) ?_
          refine lv_iload_n hx hb dX7_forge_63 rfl (lv_at hl 3 rfl) ?_
          refine call_w (wr := [(xh, .inr (0, [.ref xhc, .int (nI st), .int (nI nx)])), (xhc, .inl (tq.1, 7365, .inl hc))]) (va_runV (As := [.int (nI ek_), .int (nI ak_)]) (rest := []) ⟨hx, hb, hml, hown, hts⟩ (kX7_canForge ln dg tq (x0 := x0) (xl := xl) (xh := xh) (xt := xt) (xp := xp) (xo := xo) (xu := xu) (xw := xw) (xlc := xlc) (c := c) (s := s) (hF := hF) (xus := xus) (uf := uf) (ek_ := ek_) (ak_ := ak_) (hek := (by omega)) (hek0 := (by omega)) (hak := (by omega)) H.size) (cwV 2 hts gX7_forge_X7_canForge rfl rfl rfl hdX7_canForge ⟨Nat.le_of_ble_eq_true rfl, Nat.le_of_ble_eq_true rfl⟩) (preVB hK hN hP hD [0, 1, 2, 5, 6] rfl rfl rfl 0 rfl rfl [.int (nI ek_), .int (nI ak_)]) rfl rfl hl.1 rfl (lv_room (Nat.le_of_ble_eq_true rfl)) dX7_forge_64 ⟨Nat.le_refl _, Nat.le_refl _⟩) hP hD hS hA [0, 1, 2, 5, 6] [3, 4] rfl rfl (by decide) (by decide) (fun r64 u64 H locs hw64 hP hD hS => ?_)
          obtain ⟨uf264, rfl⟩ : ∃ z, z = u64 := ⟨_, rfl⟩
          have hP : va_P dg vwCl [(xh, .inr (0, [.ref xhc, .int (nI st), .int (nI nx)])), (xhc, .inl (tq.1, 7365, .inl hc)), (x0, .inr (7, [.ref xl, .ref xh, .ref xt, .ref xp, .ref xo, .ref xu, .ref xw])), (xl, .inr (1, [.ref xlc])), (xlc, .inl (tq.1, 1473, .inl c)), (xu, .inr (5, [.ref xus])), (xus, .inl (tq.1, 6, .inl uf264))] H := hP
          have hD : va_D AA [(xh, .inr (0, [.ref xhc, .int (nI st), .int (nI nx)])), (xhc, .inl (tq.1, 7365, .inl hc)), (x0, .inr (7, [.ref xl, .ref xh, .ref xt, .ref xp, .ref xo, .ref xu, .ref xw])), (xl, .inr (1, [.ref xlc])), (xlc, .inl (tq.1, 1473, .inl c)), (xu, .inr (5, [.ref xus])), (xus, .inl (tq.1, 6, .inl uf264))] := hD
          subst hw64
          refine r_if_ne_b (tgt := 73) hx hb dX7_forge_67 (by decide) (fun c67 => ?_) (fun c67 => ?_)
          · skip
            refine lv_aload_n hx hb dX7_forge_73 rfl (lv_at hl 1 rfl) ?_
            refine va_get (D := dg) (ci := 7) (v := .ref xh) (C := RX7) (T := TX7) (N := 7) hx hb hts in7 hown hK hP 2 rfl rfl 1 (by decide) f19 (fun _ h9 => h9) rfl dX7_forge_74 ?_
            refine lv_aload_n hx hb dX7_forge_77 rfl (lv_at hl 1 rfl) ?_
            refine va_get (D := dg) (ci := 7) (v := .ref xl) (C := RX7) (T := TX7) (N := 7) hx hb hts in7 hown hK hP 2 rfl rfl 0 (by decide) f12 (fun _ h9 => h9) rfl dX7_forge_78 ?_
            refine call_v (wr := [(x0, .inr (7, [.ref xl, .ref xh, .ref xt, .ref xp, .ref xo, .ref xu, .ref xw])), (xu, .inr (5, [.ref xus])), (xus, .inl (tq.1, 6, .inl uf264))]) (va_runV (As := [.ref xl]) (rest := []) ⟨hx, hb, hml, hown, hts⟩ (kX0_remember ln dg tq (b0 := xh) (b1 := xhc) (st := st) (nx := nx) (hc := hc) (h0 := xl) (h1 := xlc) (c := c) (hst := (by omega)) (hnx := (by omega)) H.size) (cwV 1 hts gX7_forge_X0_remember rfl rfl rfl hdX0_remember ⟨Nat.le_of_ble_eq_true rfl, Nat.le_of_ble_eq_true rfl⟩) (preVB hK hN hP hD [0, 1, 3, 4] rfl rfl rfl 0 rfl rfl [.ref xl]) rfl rfl hl.1 rfl (lv_room (Nat.le_of_ble_eq_true rfl)) dX7_forge_81 ⟨Nat.le_refl _, Nat.le_refl _⟩) hP hD hS hA [0, 1, 3, 4] [2, 5, 6] rfl rfl (by decide) (by decide) (fun u81 H locs hw81 hP hD hS => ?_)
            have hP : va_P dg vwCl [(x0, .inr (7, [.ref xl, .ref xh, .ref xt, .ref xp, .ref xo, .ref xu, .ref xw])), (xu, .inr (5, [.ref xus])), (xus, .inl (tq.1, 6, .inl uf264)), (xh, .inr (0, [.ref xhc, .int (nI (recN st)), .int (nI ((nx + 1) % 5))])), (xhc, .inl (tq.1, 7365, .inl (va_cpy c hc 0 (nx * 1473) 1473))), (xl, .inr (1, [.ref xlc])), (xlc, .inl (tq.1, 1473, .inl c))] H := hP
            have hD : va_D AA [(x0, .inr (7, [.ref xl, .ref xh, .ref xt, .ref xp, .ref xo, .ref xu, .ref xw])), (xu, .inr (5, [.ref xus])), (xus, .inl (tq.1, 6, .inl uf264)), (xh, .inr (0, [.ref xhc, .int (nI (recN st)), .int (nI ((nx + 1) % 5))])), (xhc, .inl (tq.1, 7365, .inl (va_cpy c hc 0 (nx * 1473) 1473))), (xl, .inr (1, [.ref xlc])), (xlc, .inl (tq.1, 1473, .inl c))] := hD
            refine lv_aload_n hx hb dX7_forge_84 rfl (lv_at hl 1 rfl) ?_
            refine va_get (D := dg) (ci := 7) (v := .ref xl) (C := RX7) (T := TX7) (N := 7) hx hb hts in7 hown hK hP 0 rfl rfl 0 (by decide) f12 (fun _ h9 => h9) rfl dX7_forge_85 ?_
            refine lv_iload_n hx hb dX7_forge_88 rfl (lv_at hl 2 rfl) ?_
            refine lv_iconst (v := (nI 3)) hx hb dX7_forge_89 (by decide) ?_
            refine call_x (va_runV (As := [.int (nI ek_), .int (nI 3)]) (rest := []) ⟨hx, hb, hml, hown, hts⟩ (kX1_ofEntry ln dg tq (h0 := xl) (h1 := xlc) (c := c) (e := ek_) (f := 3) (he := (by omega)) (hf := (by omega)) H.size) (cwV 2 hts gX7_forge_X1_ofEntry rfl rfl rfl hdX1_ofEntry ⟨Nat.le_of_ble_eq_true rfl, Nat.le_of_ble_eq_true rfl⟩) (preVR hK hN hP [5, 6] rfl 5 rfl rfl [.int (nI ek_), .int (nI 3)]) rfl rfl hl.1 rfl (lv_room (Nat.le_of_ble_eq_true rfl)) dX7_forge_90 ⟨Nat.le_refl _, Nat.le_refl _⟩) hP hS hA (fun H locs hP hS => ?_)
            refine r_top (show (c (5 + ek_ * 7 + 3)) = (me s ek_ 4) from hR.xam (by omega)) ?_
            refine lv_istore (lv' := [(4, .int (me s ek_ 4)), (3, .int (nI 0)), (0, .ref x0), (1, .int (nI ek_)), (2, .int (nI ak_))]) hx hb dX7_forge_93 hl (by decide) rfl (fun ls hl => ?_)
            refine lv_aload_n hx hb dX7_forge_95 rfl (lv_at hl 2 rfl) ?_
            refine va_get (D := dg) (ci := 7) (v := .ref xl) (C := RX7) (T := TX7) (N := 7) hx hb hts in7 hown hK hP 0 rfl rfl 0 (by decide) f12 (fun _ h9 => h9) rfl dX7_forge_96 ?_
            refine lv_iload_n hx hb dX7_forge_99 rfl (lv_at hl 3 rfl) ?_
            refine lv_iconst (v := (nI 3)) hx hb dX7_forge_100 (by decide) ?_
            refine lv_iload_n hx hb dX7_forge_101 rfl (lv_at hl 4 rfl) ?_
            refine call_v (wr := [(x0, .inr (7, [.ref xl, .ref xh, .ref xt, .ref xp, .ref xo, .ref xu, .ref xw])), (xu, .inr (5, [.ref xus])), (xus, .inl (tq.1, 6, .inl uf264)), (xh, .inr (0, [.ref xhc, .int (nI (recN st)), .int (nI ((nx + 1) % 5))])), (xhc, .inl (tq.1, 7365, .inl (va_cpy c hc 0 (nx * 1473) 1473)))]) (va_runV (As := [.int (nI ek_), .int (nI 3), .int (nI ak_)]) (rest := []) ⟨hx, hb, hml, hown, hts⟩ (kX1_setOfEntry ln dg tq (h0 := xl) (h1 := xlc) (c := c) (e := ek_) (f := 3) (v := (nI ak_)) (he := (by omega)) (hf := (by omega)) H.size) (cwV 3 hts gX7_forge_X1_setOfEntry rfl rfl rfl hdX1_setOfEntry ⟨Nat.le_of_ble_eq_true rfl, Nat.le_of_ble_eq_true rfl⟩) (preVB hK hN hP hD [5, 6] rfl rfl rfl 5 rfl rfl [.int (nI ek_), .int (nI 3), .int (nI ak_)]) rfl rfl hl.1 rfl (lv_room (Nat.le_of_ble_eq_true rfl)) dX7_forge_102 ⟨Nat.le_refl _, Nat.le_refl _⟩) hP hD hS hA [5, 6] [0, 1, 2, 3, 4] rfl rfl (by decide) (by decide) (fun u102 H locs hw102 hP hD hS => ?_)
            have hP : va_P dg vwCl [(x0, .inr (7, [.ref xl, .ref xh, .ref xt, .ref xp, .ref xo, .ref xu, .ref xw])), (xu, .inr (5, [.ref xus])), (xus, .inl (tq.1, 6, .inl uf264)), (xh, .inr (0, [.ref xhc, .int (nI (recN st)), .int (nI ((nx + 1) % 5))])), (xhc, .inl (tq.1, 7365, .inl (va_cpy c hc 0 (nx * 1473) 1473))), (xl, .inr (1, [.ref xlc])), (xlc, .inl (tq.1, 1473, .inl (upd c (5 + ek_ * 7 + 3) (nI ak_))))] H := hP
            have hD : va_D AA [(x0, .inr (7, [.ref xl, .ref xh, .ref xt, .ref xp, .ref xo, .ref xu, .ref xw])), (xu, .inr (5, [.ref xus])), (xus, .inl (tq.1, 6, .inl uf264)), (xh, .inr (0, [.ref xhc, .int (nI (recN st)), .int (nI ((nx + 1) % 5))])), (xhc, .inl (tq.1, 7365, .inl (va_cpy c hc 0 (nx * 1473) 1473))), (xl, .inr (1, [.ref xlc])), (xlc, .inl (tq.1, 1473, .inl (upd c (5 + ek_ * 7 + 3) (nI ak_))))] := hD
            refine lv_iload hx hb dX7_forge_105 (lv_at hl 0 rfl) ?_
            exact hret (me s ek_ 4) ((upd c (5 + ek_ * 7 + 3) (nI ak_)), (va_cpy c hc 0 (nx * 1473) 1473), (recN st), ((nx + 1) % 5), uf264) H locs _ ls (show (me s ek_ 4) = (fgR s (nI ek_) (nI ak_)) ∧ (ACT s c hc st nx (fgO s (nI ek_) (nI ak_)) (fgS s (cl (nI ek_)) (nI ak_)) (upd c (5 + ek_ * 7 + 3) (nI ak_)) (va_cpy c hc 0 (nx * 1473) 1473) (recN st) ((nx + 1) % 5)) from (have e0 : fgP s (nI ek_) (nI ak_) = true := (by unfold fgP; rw [decide_eq_false hx0, c12, cl_n (show ek_ < 2147483648 by omega), if_neg (show ¬ kd s ek_ = 4 from c28), c55]; rfl); ⟨by unfold fgR; rw [e0, if_pos rfl, cl_n (show ek_ < 2147483648 by omega), c67]; rfl, ACT.yes (by unfold fgO; rw [e0, cl_n (show ek_ < 2147483648 by omega), c67]; rfl) (by rw [cl_n (show ek_ < 2147483648 by omega)]; exact FS_fg hF hek0 hek (by rw [nI_tI (by omega)]; omega) (by rw [nI_tI (by omega)]; omega) c67)⟩)) rfl (hP.sub [0, 5, 6, 3, 4, 1, 2] rfl) (hD.sub [0, 5, 6, 3, 4, 1, 2] (by decide) rfl) hS dX7_forge_107
          · skip
            refine lv_ldc hx hb hown k80 dX7_forge_70 ?_
            exact hret (-100002) (c, hc, st, nx, uf264) H locs _ ls (show (-100002) = (fgR s (nI ek_) (nI ak_)) ∧ (ACT s c hc st nx (fgO s (nI ek_) (nI ak_)) (fgS s (cl (nI ek_)) (nI ak_)) c hc st nx) from (have e0 : fgP s (nI ek_) (nI ak_) = true := (by unfold fgP; rw [decide_eq_false hx0, c12, cl_n (show ek_ < 2147483648 by omega), if_neg (show ¬ kd s ek_ = 4 from c28), c55]; rfl); ⟨by unfold fgR; rw [e0, if_pos rfl, cl_n (show ek_ < 2147483648 by omega), c67]; rfl, ACT.no (by unfold fgO; rw [e0, cl_n (show ek_ < 2147483648 by omega), c67]; rfl)⟩)) rfl (hP.sub [2, 3, 4, 0, 1, 5, 6] rfl) (hD.sub [2, 3, 4, 0, 1, 5, 6] (by decide) rfl) hS dX7_forge_72
        · skip
          refine lv_ldc hx hb hown k65 dX7_forge_58 ?_
          exact hret (-100001) (c, hc, st, nx, uf) H locs _ ls (show (-100001) = (fgR s (nI ek_) a) ∧ (ACT s c hc st nx (fgO s (nI ek_) a) (fgS s (cl (nI ek_)) a) c hc st nx) from (have e0 : fgP s (nI ek_) a = false := (by unfold fgP; rw [decide_eq_false hx0, c12, cl_n (show ek_ < 2147483648 by omega), if_neg (show ¬ kd s ek_ = 4 from c28), c55]; rfl); ⟨by unfold fgR; rw [e0]; rfl, ACT.no (by unfold fgO; rw [e0]; rfl)⟩)) rfl (hP.sub [0, 1, 2, 3, 4, 5, 6] rfl) (hD.sub [0, 1, 2, 3, 4, 5, 6] (by decide) rfl) hS dX7_forge_60
      · skip
        refine lv_iconst (v := (nI 1)) hx hb dX7_forge_31 (by decide) ?_
        refine lv_goto (tgt := 36) hx hb dX7_forge_32 (by decide) ?_
        refine lv_istore_n (lv' := [(3, .int (nI 1)), (0, .ref x0), (1, .int (nI ek_)), (2, .int a)]) hx hb dX7_forge_36 rfl hl (by decide) rfl (fun ls hl => ?_)
        refine lv_iload_n hx hb dX7_forge_37 rfl (lv_at hl 0 rfl) ?_
        refine r_if_eq (tgt := 51) hx hb (nI_tI (by omega)) dX7_forge_38 (by decide) (fun c38 => False.elim (by omega)) (fun c38 => ?_)
        refine lv_iload_n hx hb dX7_forge_41 rfl (lv_at hl 3 rfl) ?_
        refine call_x (va_runS (As := [.int a]) (rest := []) ⟨hx, hb, hml, hown, hts⟩ (kX7_isCode ln dg tq (v := a) H.size) (va_cwS 1 hts gX7_forge_X7_isCode rfl rfl rfl hdX7_isCode.2 ⟨Nat.le_of_ble_eq_true rfl, Nat.le_of_ble_eq_true rfl⟩) (preS0 hK hN [.int a]) rfl rfl hl.1 rfl (lv_room (Nat.le_of_ble_eq_true rfl)) dX7_forge_42 ⟨Nat.le_refl _, Nat.le_refl _⟩) hP hS hA (fun H locs hP hS => ?_)
        refine r_if_ne_b (tgt := 61) hx hb dX7_forge_45 (by decide) (fun c45 => ?_) (fun c45 => ?_)
        · skip
          obtain ⟨ak_, ha1, ha2, rfl⟩ := inR_t (by omega) (by omega) c45
          refine lv_aload_n hx hb dX7_forge_61 rfl (lv_at hl 1 rfl) ?_
          refine lv_iload_n hx hb dX7_forge_62 rfl (lv_at hl 2 rfl) ?_
          refine lv_iload_n hx hb dX7_forge_63 rfl (lv_at hl 3 rfl) ?_
          refine call_w (wr := [(xh, .inr (0, [.ref xhc, .int (nI st), .int (nI nx)])), (xhc, .inl (tq.1, 7365, .inl hc))]) (va_runV (As := [.int (nI ek_), .int (nI ak_)]) (rest := []) ⟨hx, hb, hml, hown, hts⟩ (kX7_canForge ln dg tq (x0 := x0) (xl := xl) (xh := xh) (xt := xt) (xp := xp) (xo := xo) (xu := xu) (xw := xw) (xlc := xlc) (c := c) (s := s) (hF := hF) (xus := xus) (uf := uf) (ek_ := ek_) (ak_ := ak_) (hek := (by omega)) (hek0 := (by omega)) (hak := (by omega)) H.size) (cwV 2 hts gX7_forge_X7_canForge rfl rfl rfl hdX7_canForge ⟨Nat.le_of_ble_eq_true rfl, Nat.le_of_ble_eq_true rfl⟩) (preVB hK hN hP hD [0, 1, 2, 5, 6] rfl rfl rfl 0 rfl rfl [.int (nI ek_), .int (nI ak_)]) rfl rfl hl.1 rfl (lv_room (Nat.le_of_ble_eq_true rfl)) dX7_forge_64 ⟨Nat.le_refl _, Nat.le_refl _⟩) hP hD hS hA [0, 1, 2, 5, 6] [3, 4] rfl rfl (by decide) (by decide) (fun r64 u64 H locs hw64 hP hD hS => ?_)
          obtain ⟨uf264, rfl⟩ : ∃ z, z = u64 := ⟨_, rfl⟩
          have hP : va_P dg vwCl [(xh, .inr (0, [.ref xhc, .int (nI st), .int (nI nx)])), (xhc, .inl (tq.1, 7365, .inl hc)), (x0, .inr (7, [.ref xl, .ref xh, .ref xt, .ref xp, .ref xo, .ref xu, .ref xw])), (xl, .inr (1, [.ref xlc])), (xlc, .inl (tq.1, 1473, .inl c)), (xu, .inr (5, [.ref xus])), (xus, .inl (tq.1, 6, .inl uf264))] H := hP
          have hD : va_D AA [(xh, .inr (0, [.ref xhc, .int (nI st), .int (nI nx)])), (xhc, .inl (tq.1, 7365, .inl hc)), (x0, .inr (7, [.ref xl, .ref xh, .ref xt, .ref xp, .ref xo, .ref xu, .ref xw])), (xl, .inr (1, [.ref xlc])), (xlc, .inl (tq.1, 1473, .inl c)), (xu, .inr (5, [.ref xus])), (xus, .inl (tq.1, 6, .inl uf264))] := hD
          subst hw64
          refine r_if_ne_b (tgt := 73) hx hb dX7_forge_67 (by decide) (fun c67 => ?_) (fun c67 => ?_)
          · skip
            refine lv_aload_n hx hb dX7_forge_73 rfl (lv_at hl 1 rfl) ?_
            refine va_get (D := dg) (ci := 7) (v := .ref xh) (C := RX7) (T := TX7) (N := 7) hx hb hts in7 hown hK hP 2 rfl rfl 1 (by decide) f19 (fun _ h9 => h9) rfl dX7_forge_74 ?_
            refine lv_aload_n hx hb dX7_forge_77 rfl (lv_at hl 1 rfl) ?_
            refine va_get (D := dg) (ci := 7) (v := .ref xl) (C := RX7) (T := TX7) (N := 7) hx hb hts in7 hown hK hP 2 rfl rfl 0 (by decide) f12 (fun _ h9 => h9) rfl dX7_forge_78 ?_
            refine call_v (wr := [(x0, .inr (7, [.ref xl, .ref xh, .ref xt, .ref xp, .ref xo, .ref xu, .ref xw])), (xu, .inr (5, [.ref xus])), (xus, .inl (tq.1, 6, .inl uf264))]) (va_runV (As := [.ref xl]) (rest := []) ⟨hx, hb, hml, hown, hts⟩ (kX0_remember ln dg tq (b0 := xh) (b1 := xhc) (st := st) (nx := nx) (hc := hc) (h0 := xl) (h1 := xlc) (c := c) (hst := (by omega)) (hnx := (by omega)) H.size) (cwV 1 hts gX7_forge_X0_remember rfl rfl rfl hdX0_remember ⟨Nat.le_of_ble_eq_true rfl, Nat.le_of_ble_eq_true rfl⟩) (preVB hK hN hP hD [0, 1, 3, 4] rfl rfl rfl 0 rfl rfl [.ref xl]) rfl rfl hl.1 rfl (lv_room (Nat.le_of_ble_eq_true rfl)) dX7_forge_81 ⟨Nat.le_refl _, Nat.le_refl _⟩) hP hD hS hA [0, 1, 3, 4] [2, 5, 6] rfl rfl (by decide) (by decide) (fun u81 H locs hw81 hP hD hS => ?_)
            have hP : va_P dg vwCl [(x0, .inr (7, [.ref xl, .ref xh, .ref xt, .ref xp, .ref xo, .ref xu, .ref xw])), (xu, .inr (5, [.ref xus])), (xus, .inl (tq.1, 6, .inl uf264)), (xh, .inr (0, [.ref xhc, .int (nI (recN st)), .int (nI ((nx + 1) % 5))])), (xhc, .inl (tq.1, 7365, .inl (va_cpy c hc 0 (nx * 1473) 1473))), (xl, .inr (1, [.ref xlc])), (xlc, .inl (tq.1, 1473, .inl c))] H := hP
            have hD : va_D AA [(x0, .inr (7, [.ref xl, .ref xh, .ref xt, .ref xp, .ref xo, .ref xu, .ref xw])), (xu, .inr (5, [.ref xus])), (xus, .inl (tq.1, 6, .inl uf264)), (xh, .inr (0, [.ref xhc, .int (nI (recN st)), .int (nI ((nx + 1) % 5))])), (xhc, .inl (tq.1, 7365, .inl (va_cpy c hc 0 (nx * 1473) 1473))), (xl, .inr (1, [.ref xlc])), (xlc, .inl (tq.1, 1473, .inl c))] := hD
            refine lv_aload_n hx hb dX7_forge_84 rfl (lv_at hl 1 rfl) ?_
            refine va_get (D := dg) (ci := 7) (v := .ref xl) (C := RX7) (T := TX7) (N := 7) hx hb hts in7 hown hK hP 0 rfl rfl 0 (by decide) f12 (fun _ h9 => h9) rfl dX7_forge_85 ?_
            refine lv_iload_n hx hb dX7_forge_88 rfl (lv_at hl 2 rfl) ?_
            refine lv_iconst (v := (nI 3)) hx hb dX7_forge_89 (by decide) ?_
            refine call_x (va_runV (As := [.int (nI ek_), .int (nI 3)]) (rest := []) ⟨hx, hb, hml, hown, hts⟩ (kX1_ofEntry ln dg tq (h0 := xl) (h1 := xlc) (c := c) (e := ek_) (f := 3) (he := (by omega)) (hf := (by omega)) H.size) (cwV 2 hts gX7_forge_X1_ofEntry rfl rfl rfl hdX1_ofEntry ⟨Nat.le_of_ble_eq_true rfl, Nat.le_of_ble_eq_true rfl⟩) (preVR hK hN hP [5, 6] rfl 5 rfl rfl [.int (nI ek_), .int (nI 3)]) rfl rfl hl.1 rfl (lv_room (Nat.le_of_ble_eq_true rfl)) dX7_forge_90 ⟨Nat.le_refl _, Nat.le_refl _⟩) hP hS hA (fun H locs hP hS => ?_)
            refine r_top (show (c (5 + ek_ * 7 + 3)) = (me s ek_ 4) from hR.xam (by omega)) ?_
            refine lv_istore (lv' := [(4, .int (me s ek_ 4)), (3, .int (nI 1)), (0, .ref x0), (1, .int (nI ek_)), (2, .int (nI ak_))]) hx hb dX7_forge_93 hl (by decide) rfl (fun ls hl => ?_)
            refine lv_aload_n hx hb dX7_forge_95 rfl (lv_at hl 2 rfl) ?_
            refine va_get (D := dg) (ci := 7) (v := .ref xl) (C := RX7) (T := TX7) (N := 7) hx hb hts in7 hown hK hP 0 rfl rfl 0 (by decide) f12 (fun _ h9 => h9) rfl dX7_forge_96 ?_
            refine lv_iload_n hx hb dX7_forge_99 rfl (lv_at hl 3 rfl) ?_
            refine lv_iconst (v := (nI 3)) hx hb dX7_forge_100 (by decide) ?_
            refine lv_iload_n hx hb dX7_forge_101 rfl (lv_at hl 4 rfl) ?_
            refine call_v (wr := [(x0, .inr (7, [.ref xl, .ref xh, .ref xt, .ref xp, .ref xo, .ref xu, .ref xw])), (xu, .inr (5, [.ref xus])), (xus, .inl (tq.1, 6, .inl uf264)), (xh, .inr (0, [.ref xhc, .int (nI (recN st)), .int (nI ((nx + 1) % 5))])), (xhc, .inl (tq.1, 7365, .inl (va_cpy c hc 0 (nx * 1473) 1473)))]) (va_runV (As := [.int (nI ek_), .int (nI 3), .int (nI ak_)]) (rest := []) ⟨hx, hb, hml, hown, hts⟩ (kX1_setOfEntry ln dg tq (h0 := xl) (h1 := xlc) (c := c) (e := ek_) (f := 3) (v := (nI ak_)) (he := (by omega)) (hf := (by omega)) H.size) (cwV 3 hts gX7_forge_X1_setOfEntry rfl rfl rfl hdX1_setOfEntry ⟨Nat.le_of_ble_eq_true rfl, Nat.le_of_ble_eq_true rfl⟩) (preVB hK hN hP hD [5, 6] rfl rfl rfl 5 rfl rfl [.int (nI ek_), .int (nI 3), .int (nI ak_)]) rfl rfl hl.1 rfl (lv_room (Nat.le_of_ble_eq_true rfl)) dX7_forge_102 ⟨Nat.le_refl _, Nat.le_refl _⟩) hP hD hS hA [5, 6] [0, 1, 2, 3, 4] rfl rfl (by decide) (by decide) (fun u102 H locs hw102 hP hD hS => ?_)
            have hP : va_P dg vwCl [(x0, .inr (7, [.ref xl, .ref xh, .ref xt, .ref xp, .ref xo, .ref xu, .ref xw])), (xu, .inr (5, [.ref xus])), (xus, .inl (tq.1, 6, .inl uf264)), (xh, .inr (0, [.ref xhc, .int (nI (recN st)), .int (nI ((nx + 1) % 5))])), (xhc, .inl (tq.1, 7365, .inl (va_cpy c hc 0 (nx * 1473) 1473))), (xl, .inr (1, [.ref xlc])), (xlc, .inl (tq.1, 1473, .inl (upd c (5 + ek_ * 7 + 3) (nI ak_))))] H := hP
            have hD : va_D AA [(x0, .inr (7, [.ref xl, .ref xh, .ref xt, .ref xp, .ref xo, .ref xu, .ref xw])), (xu, .inr (5, [.ref xus])), (xus, .inl (tq.1, 6, .inl uf264)), (xh, .inr (0, [.ref xhc, .int (nI (recN st)), .int (nI ((nx + 1) % 5))])), (xhc, .inl (tq.1, 7365, .inl (va_cpy c hc 0 (nx * 1473) 1473))), (xl, .inr (1, [.ref xlc])), (xlc, .inl (tq.1, 1473, .inl (upd c (5 + ek_ * 7 + 3) (nI ak_))))] := hD
            refine lv_iload hx hb dX7_forge_105 (lv_at hl 0 rfl) ?_
            exact hret (me s ek_ 4) ((upd c (5 + ek_ * 7 + 3) (nI ak_)), (va_cpy c hc 0 (nx * 1473) 1473), (recN st), ((nx + 1) % 5), uf264) H locs _ ls (show (me s ek_ 4) = (fgR s (nI ek_) (nI ak_)) ∧ (ACT s c hc st nx (fgO s (nI ek_) (nI ak_)) (fgS s (cl (nI ek_)) (nI ak_)) (upd c (5 + ek_ * 7 + 3) (nI ak_)) (va_cpy c hc 0 (nx * 1473) 1473) (recN st) ((nx + 1) % 5)) from (have e0 : fgP s (nI ek_) (nI ak_) = true := (by unfold fgP; rw [decide_eq_false hx0, c12, cl_n (show ek_ < 2147483648 by omega), if_pos (show kd s ek_ = 4 from c28), c45]; rfl); ⟨by unfold fgR; rw [e0, if_pos rfl, cl_n (show ek_ < 2147483648 by omega), c67]; rfl, ACT.yes (by unfold fgO; rw [e0, cl_n (show ek_ < 2147483648 by omega), c67]; rfl) (by rw [cl_n (show ek_ < 2147483648 by omega)]; exact FS_fg hF hek0 hek (by rw [nI_tI (by omega)]; omega) (by rw [nI_tI (by omega)]; omega) c67)⟩)) rfl (hP.sub [0, 5, 6, 3, 4, 1, 2] rfl) (hD.sub [0, 5, 6, 3, 4, 1, 2] (by decide) rfl) hS dX7_forge_107
          · skip
            refine lv_ldc hx hb hown k80 dX7_forge_70 ?_
            exact hret (-100002) (c, hc, st, nx, uf264) H locs _ ls (show (-100002) = (fgR s (nI ek_) (nI ak_)) ∧ (ACT s c hc st nx (fgO s (nI ek_) (nI ak_)) (fgS s (cl (nI ek_)) (nI ak_)) c hc st nx) from (have e0 : fgP s (nI ek_) (nI ak_) = true := (by unfold fgP; rw [decide_eq_false hx0, c12, cl_n (show ek_ < 2147483648 by omega), if_pos (show kd s ek_ = 4 from c28), c45]; rfl); ⟨by unfold fgR; rw [e0, if_pos rfl, cl_n (show ek_ < 2147483648 by omega), c67]; rfl, ACT.no (by unfold fgO; rw [e0, cl_n (show ek_ < 2147483648 by omega), c67]; rfl)⟩)) rfl (hP.sub [2, 3, 4, 0, 1, 5, 6] rfl) (hD.sub [2, 3, 4, 0, 1, 5, 6] (by decide) rfl) hS dX7_forge_72
        · skip
          refine lv_goto (tgt := 58) hx hb dX7_forge_48 (by decide) ?_
          refine lv_ldc hx hb hown k65 dX7_forge_58 ?_
          exact hret (-100001) (c, hc, st, nx, uf) H locs _ ls (show (-100001) = (fgR s (nI ek_) a) ∧ (ACT s c hc st nx (fgO s (nI ek_) a) (fgS s (cl (nI ek_)) a) c hc st nx) from (have e0 : fgP s (nI ek_) a = false := (by unfold fgP; rw [decide_eq_false hx0, c12, cl_n (show ek_ < 2147483648 by omega), if_pos (show kd s ek_ = 4 from c28), c45]; rfl); ⟨by unfold fgR; rw [e0]; rfl, ACT.no (by unfold fgO; rw [e0]; rfl)⟩)) rfl (hP.sub [0, 1, 2, 3, 4, 5, 6] rfl) (hD.sub [0, 1, 2, 3, 4, 5, 6] (by decide) rfl) hS dX7_forge_60
    · skip
      refine lv_ldc hx hb hown k65 dX7_forge_15 ?_
      exact hret (-100001) (c, hc, st, nx, uf) H locs _ ls (show (-100001) = (fgR s x a) ∧ (ACT s c hc st nx (fgO s x a) (fgS s (cl x) a) c hc st nx) from (have e0 : fgP s x a = false := (by unfold fgP; rw [c12]; simp); ⟨by unfold fgR; rw [e0]; rfl, ACT.no (by unfold fgO; rw [e0]; rfl)⟩)) rfl (hP.sub [0, 1, 2, 3, 4, 5, 6] rfl) (hD.sub [0, 1, 2, 3, 4, 5, 6] (by decide) rfl) hS dX7_forge_17
theorem hdX7_relink : yX7_relink.cls = RX7 ∧ yX7_relink.cls ≠ "java/lang/invoke/MethodHandle" ∧ yX7_relink.cls ≠ "java/lang/invoke/VarHandle" ∧ (parseMethodDescriptor yX7_relink.desc).map (fun d => d.parameters.length) = some 1 := by decide +kernel
set_option maxHeartbeats 4000000 in
set_option maxRecDepth 100000 in
theorem kX7_relink (ln : Launch) (dg : va_G) (tq : ClassId × ClassId) (x0 xl xh xt xp xo xu xw : Nat)(xlc : Nat) (c : Row) (s : Row) (hF : FS s c)(xhc : Nat) (st nx : Nat) (hc : Row) (hst : st ≤ 5) (hnx : nx < 5) (x : Int32) : MW ln yX7_relink wsX7_relink (rmm 3 69) dg tq [.ref x0, .int x] [(x0, .inr (7, [.ref xl, .ref xh, .ref xt, .ref xp, .ref xo, .ref xu, .ref xw])), (xl, .inr (1, [.ref xlc])), (xlc, .inl (tq.1, 1473, .inl c)), (xh, .inr (0, [.ref xhc, .int (nI st), .int (nI nx)])), (xhc, .inl (tq.1, 7365, .inl hc))] (fun (r : Int32) (u : Row × Row × Nat × Nat) => r = (rkR s x) ∧ (ACT s c hc st nx (hasN x (nE s)) (rkS s x) u.1 u.2.1 u.2.2.1 u.2.2.2)) (fun u => [(x0, .inr (7, [.ref xl, .ref xh, .ref xt, .ref xp, .ref xo, .ref xu, .ref xw])), (xl, .inr (1, [.ref xlc])), (xlc, .inl (tq.1, 1473, .inl u.1)), (xh, .inr (0, [.ref xhc, .int (nI u.2.2.1), .int (nI u.2.2.2)])), (xhc, .inl (tq.1, 7365, .inl u.2.1))]) := by
  refine MW.enter cX7_relink 4 .int (by decide) rfl rfl (Nat.le_of_ble_eq_true rfl) ?_
  intro pP eE sS mM aA bB mT cC QQ AA hA hAT hret H locs hP hD hS ls hl
  obtain ⟨hx, hb, hml, hown, hts, hK, hN⟩ := hAT
  have hown : sS.vm.findClass RX7 = some mM.cls := hown
  have hl : lv_has ls 4 [(0, .ref x0), (1, .int x)] := hl
  have in7 : ∀ w ∈ u_ws RX7 TX7 7, w ∈ wsX7_relink := (fun _ h9 => List.mem_cons_of_mem _ (List.mem_append_left _ (List.mem_append_left _ (List.mem_append_right _ h9))))
  have f12 := hts (.fieldLink RX7 12 "OrphanChain" "ledger" "LOrphanChain$Ledger;") (List.mem_of_getElem? (i := 1) rfl)
  have f19 := hts (.fieldLink RX7 19 "OrphanChain" "history" "LOrphanChain$History;") (List.mem_of_getElem? (i := 3) rfl)
  have k65 := hts (.constant RX7 65 (-100001)) (List.mem_of_getElem? (i := 2) rfl)
  obtain ⟨hR, hW, hs0, hs1⟩ := id hF
  have hn60 := hW.n60
  have hb10 := hW.b10
  have hs8 := hW.s8
  have hhn := hW.hn
  have hcl := cntF_le (loudB s) (nB s)
  refine lv_aload_n hx hb dX7_relink_0 rfl (lv_at hl 0 rfl) ?_
  refine va_get (D := dg) (ci := 7) (v := .ref xl) (C := RX7) (T := TX7) (N := 7) hx hb hts in7 hown hK hP 0 rfl rfl 0 (by decide) f12 (fun _ h9 => h9) rfl dX7_relink_1 ?_
  refine lv_iload_n hx hb dX7_relink_4 rfl (lv_at hl 1 rfl) ?_
  refine call_x (va_runV (As := [.int x]) (rest := []) ⟨hx, hb, hml, hown, hts⟩ (kX1_hasEntry ln dg tq (h0 := xl) (h1 := xlc) (c := c) (s := s) (hR := (by omega)) (hW := (by omega)) (x := x) H.size) (cwV 1 hts gX7_relink_X1_hasEntry rfl rfl rfl hdX1_hasEntry ⟨Nat.le_of_ble_eq_true rfl, Nat.le_of_ble_eq_true rfl⟩) (preVR hK hN hP [1, 2] rfl 1 rfl rfl [.int x]) rfl rfl hl.1 rfl (lv_room (Nat.le_of_ble_eq_true rfl)) dX7_relink_5 ⟨Nat.le_refl _, Nat.le_refl _⟩) hP hS hA (fun H locs hP hS => ?_)
  refine r_if_ne_b (tgt := 14) hx hb dX7_relink_8 (by decide) (fun c8 => ?_) (fun c8 => ?_)
  · skip
    obtain ⟨ek_, hek, rfl⟩ := hasN_t c8
    refine lv_aload_n hx hb dX7_relink_14 rfl (lv_at hl 0 rfl) ?_
    refine va_get (D := dg) (ci := 7) (v := .ref xh) (C := RX7) (T := TX7) (N := 7) hx hb hts in7 hown hK hP 0 rfl rfl 1 (by decide) f19 (fun _ h9 => h9) rfl dX7_relink_15 ?_
    refine lv_aload_n hx hb dX7_relink_18 rfl (lv_at hl 0 rfl) ?_
    refine va_get (D := dg) (ci := 7) (v := .ref xl) (C := RX7) (T := TX7) (N := 7) hx hb hts in7 hown hK hP 0 rfl rfl 0 (by decide) f12 (fun _ h9 => h9) rfl dX7_relink_19 ?_
    refine call_v (wr := [(x0, .inr (7, [.ref xl, .ref xh, .ref xt, .ref xp, .ref xo, .ref xu, .ref xw]))]) (va_runV (As := [.ref xl]) (rest := []) ⟨hx, hb, hml, hown, hts⟩ (kX0_remember ln dg tq (b0 := xh) (b1 := xhc) (st := st) (nx := nx) (hc := hc) (h0 := xl) (h1 := xlc) (c := c) (hst := (by omega)) (hnx := (by omega)) H.size) (cwV 1 hts gX7_relink_X0_remember rfl rfl rfl hdX0_remember ⟨Nat.le_of_ble_eq_true rfl, Nat.le_of_ble_eq_true rfl⟩) (preVB hK hN hP hD [3, 4, 1, 2] rfl rfl rfl 3 rfl rfl [.ref xl]) rfl rfl hl.1 rfl (lv_room (Nat.le_of_ble_eq_true rfl)) dX7_relink_22 ⟨Nat.le_refl _, Nat.le_refl _⟩) hP hD hS hA [3, 4, 1, 2] [0] rfl rfl (by decide) (by decide) (fun u22 H locs hw22 hP hD hS => ?_)
    have hP : va_P dg vwCl [(x0, .inr (7, [.ref xl, .ref xh, .ref xt, .ref xp, .ref xo, .ref xu, .ref xw])), (xh, .inr (0, [.ref xhc, .int (nI (recN st)), .int (nI ((nx + 1) % 5))])), (xhc, .inl (tq.1, 7365, .inl (va_cpy c hc 0 (nx * 1473) 1473))), (xl, .inr (1, [.ref xlc])), (xlc, .inl (tq.1, 1473, .inl c))] H := hP
    have hD : va_D AA [(x0, .inr (7, [.ref xl, .ref xh, .ref xt, .ref xp, .ref xo, .ref xu, .ref xw])), (xh, .inr (0, [.ref xhc, .int (nI (recN st)), .int (nI ((nx + 1) % 5))])), (xhc, .inl (tq.1, 7365, .inl (va_cpy c hc 0 (nx * 1473) 1473))), (xl, .inr (1, [.ref xlc])), (xlc, .inl (tq.1, 1473, .inl c))] := hD
    refine lv_iconst (v := (nI 0)) hx hb dX7_relink_25 (by decide) ?_
    refine lv_istore_n (lv' := [(2, .int (nI 0)), (0, .ref x0), (1, .int (nI ek_))]) hx hb dX7_relink_26 rfl hl (by decide) rfl (fun ls hl => ?_)
    refine lv_iload_n hx hb dX7_relink_27 rfl (lv_at hl 2 rfl) ?_
    refine lv_istore_n (lv' := [(3, .int (nI ek_)), (2, .int (nI 0)), (0, .ref x0), (1, .int (nI ek_))]) hx hb dX7_relink_28 rfl hl (by decide) rfl (fun ls hl => ?_)
    have loop29 : ∀ (fu : Nat) (j_ : Nat) (n_ : Nat) (x_ : Row) (H : Heap) (locs : List Loc) (ls : Array Slot), (n_ = rlN s ek_ j_ ∧ ek_ + j_ ≤ nE s ∧ x_ = xrlS s c ek_ j_) → nE s - (ek_ + j_) < fu → va_P dg vwCl [(x0, .inr (7, [.ref xl, .ref xh, .ref xt, .ref xp, .ref xo, .ref xu, .ref xw])), (xl, .inr (1, [.ref xlc])), (xlc, .inl (tq.1, 1473, .inl x_)), (xh, .inr (0, [.ref xhc, .int (nI (recN st)), .int (nI ((nx + 1) % 5))])), (xhc, .inl (tq.1, 7365, .inl (va_cpy c hc 0 (nx * 1473) 1473)))] H → va_D AA [(x0, .inr (7, [.ref xl, .ref xh, .ref xt, .ref xp, .ref xo, .ref xu, .ref xw])), (xl, .inr (1, [.ref xlc])), (xlc, .inl (tq.1, 1473, .inl x_)), (xh, .inr (0, [.ref xhc, .int (nI (recN st)), .int (nI ((nx + 1) % 5))])), (xhc, .inl (tq.1, 7365, .inl (va_cpy c hc 0 (nx * 1473) 1473)))] → va_S AA sS.heap H locs → lv_has ls 4 [(0, .ref x0), (1, .int (nI ek_)), (2, .int (nI n_)), (3, .int (nI (ek_ + j_)))] → W pP ln eE (rmm 3 69) sS mM aA bB mT cC H locs 0 0 QQ (F0 mM 29 ls []) := by
      intro fu
      induction fu with
      | zero => intro j_ n_ x_ H locs ls _ hm; exact absurd hm (Nat.not_lt_zero _)
      | succ fu ih29 =>
        intro j_ n_ x_ H locs ls hinv hm hP hD hS hl
        obtain ⟨hi1, hi2, hi3⟩ := hinv
        obtain ⟨hR2, hW2, hK1, hK2, hSE, hA0, hA1⟩ := rl_inv hF (e := ek_) (j := j_) hi2
        rw [← hi3] at hR2 hK2
        have eN : nE (rlS s ek_ j_) = nE s := by unfold nE; rw [hA0]
        refine lv_iload_n hx hb dX7_relink_29 rfl (lv_at hl 3 rfl) ?_
        refine lv_aload_n hx hb dX7_relink_30 rfl (lv_at hl 0 rfl) ?_
        refine va_get (D := dg) (ci := 7) (v := .ref xl) (C := RX7) (T := TX7) (N := 7) hx hb hts in7 hown hK hP 0 rfl rfl 0 (by decide) f12 (fun _ h9 => h9) rfl dX7_relink_31 ?_
        refine lv_iconst (v := (nI 0)) hx hb dX7_relink_34 (by decide) ?_
        refine call_x (va_runV (As := [.int (nI 0)]) (rest := [.int (nI (ek_ + j_))]) ⟨hx, hb, hml, hown, hts⟩ (kX1_number ln dg tq (h0 := xl) (h1 := xlc) (c := x_) (k := 0) (hk := (by omega)) H.size) (cwV 1 hts gX7_relink_X1_number rfl rfl rfl hdX1_number ⟨Nat.le_of_ble_eq_true rfl, Nat.le_of_ble_eq_true rfl⟩) (preVR hK hN hP [1, 2] rfl 1 rfl rfl [.int (nI 0)]) rfl rfl hl.1 rfl (lv_room (Nat.le_of_ble_eq_true rfl)) dX7_relink_35 ⟨Nat.le_refl _, Nat.le_refl _⟩) hP hS hA (fun H locs hP hS => ?_)
        refine r_top (show (x_ 0) = (nI (nE s)) from (hR2.nn hW2).trans (by rw [eN])) ?_
        refine r_icmp_ge (tgt := 90) hx hb (nI_tI (by omega)) (nI_tI (by omega)) dX7_relink_38 (by decide) (fun c38 => ?_) (fun c38 => ?_)
        · skip
          have ew : x_ = (xrlS s c ek_ (nE s - ek_)) := by rw [hi3, show nE s - ek_ = j_ by omega]
          have hP : va_P dg vwCl [(x0, .inr (7, [.ref xl, .ref xh, .ref xt, .ref xp, .ref xo, .ref xu, .ref xw])), (xl, .inr (1, [.ref xlc])), (xlc, .inl (tq.1, 1473, .inl (xrlS s c ek_ (nE s - ek_)))), (xh, .inr (0, [.ref xhc, .int (nI (recN st)), .int (nI ((nx + 1) % 5))])), (xhc, .inl (tq.1, 7365, .inl (va_cpy c hc 0 (nx * 1473) 1473)))] H := by rw [← ew]; exact hP
          have hD : va_D AA [(x0, .inr (7, [.ref xl, .ref xh, .ref xt, .ref xp, .ref xo, .ref xu, .ref xw])), (xl, .inr (1, [.ref xlc])), (xlc, .inl (tq.1, 1473, .inl (xrlS s c ek_ (nE s - ek_)))), (xh, .inr (0, [.ref xhc, .int (nI (recN st)), .int (nI ((nx + 1) % 5))])), (xhc, .inl (tq.1, 7365, .inl (va_cpy c hc 0 (nx * 1473) 1473)))] := by rw [← ew]; exact hD
          refine lv_iload_n hx hb dX7_relink_90 rfl (lv_at hl 2 rfl) ?_
          exact hret (nI n_) ((xrlS s c ek_ (nE s - ek_)), (va_cpy c hc 0 (nx * 1473) 1473), (recN st), ((nx + 1) % 5)) H locs _ ls (show (nI n_) = (rkR s (nI ek_)) ∧ (ACT s c hc st nx (hasN (nI ek_) (nE s)) (rkS s (nI ek_)) (xrlS s c ek_ (nE s - ek_)) (va_cpy c hc 0 (nx * 1473) 1473) (recN st) ((nx + 1) % 5)) from (⟨by unfold rkR; rw [c8, if_pos rfl, cl_n (show ek_ < 2147483648 by omega), hi1, show nE s - ek_ = j_ by omega], ACT.yes c8 (by unfold rkS; rw [cl_n (show ek_ < 2147483648 by omega)]; exact FS_rl hF (by omega))⟩)) rfl (hP.sub [0, 1, 2, 3, 4] rfl) (hD.sub [0, 1, 2, 3, 4] (by decide) rfl) hS dX7_relink_91
        · skip
          refine lv_aload_n hx hb dX7_relink_41 rfl (lv_at hl 0 rfl) ?_
          refine va_get (D := dg) (ci := 7) (v := .ref xl) (C := RX7) (T := TX7) (N := 7) hx hb hts in7 hown hK hP 0 rfl rfl 0 (by decide) f12 (fun _ h9 => h9) rfl dX7_relink_42 ?_
          refine lv_iload_n hx hb dX7_relink_45 rfl (lv_at hl 1 rfl) ?_
          refine lv_iload_n hx hb dX7_relink_46 rfl (lv_at hl 3 rfl) ?_
          refine call_x (va_runV (As := [.int (nI ek_), .int (nI (ek_ + j_))]) (rest := []) ⟨hx, hb, hml, hown, hts⟩ (kX1_isOnPath ln dg tq (h0 := xl) (h1 := xlc) (c := x_) (s := rlS s ek_ j_) (hR := hR2) (hW := hW2) (x := ek_) (y := ek_ + j_) (hx := (by omega)) (hy := (by omega)) H.size) (cwV 2 hts gX7_relink_X1_isOnPath rfl rfl rfl hdX1_isOnPath ⟨Nat.le_of_ble_eq_true rfl, Nat.le_of_ble_eq_true rfl⟩) (preVR hK hN hP [1, 2] rfl 1 rfl rfl [.int (nI ek_), .int (nI (ek_ + j_))]) rfl rfl hl.1 rfl (lv_room (Nat.le_of_ble_eq_true rfl)) dX7_relink_47 ⟨Nat.le_refl _, Nat.le_refl _⟩) hP hS hA (fun H locs hP hS => ?_)
          refine r_top (show (bI (onP (rlS s ek_ j_) ek_ (ek_ + j_))) = (bI (onP s ek_ (ek_ + j_))) from by rw [onP_same hW hSE (by omega)]) ?_
          refine r_if_eq_b (tgt := 84) hx hb dX7_relink_50 (by decide) (fun c50 => ?_) (fun c50 => ?_)
          · skip
            refine lv_iinc (v := (nI ((ek_ + j_) + 1))) (lv' := [(3, .int (nI ((ek_ + j_) + 1))), (0, .ref x0), (1, .int (nI ek_)), (2, .int (nI n_))]) hx hb dX7_relink_84 hl (k := 3) rfl (nI_add _ _) (by decide) rfl (fun ls hl => ?_)
            refine lv_goto (tgt := 29) hx hb dX7_relink_87 (by decide) ?_
            exact ih29 (j_ + 1) n_ x_ H locs ls (⟨by rw [rlN, if_neg (fun z => by rw [c50] at z; cases z.1), hi1]; rfl, by omega, by rw [xrlS, if_neg (fun z => by rw [c50] at z; cases z.1), hi3]⟩) (by omega) (hP.sub [0, 1, 2, 3, 4] rfl) (hD.sub [0, 1, 2, 3, 4] (by decide) rfl) hS (lv_sub hl [1, 2, 3, 0] rfl)
          · skip
            have hfx := hR2.Fit hW2 (e := ek_ + j_) (by omega)
            refine lv_aload_n hx hb dX7_relink_53 rfl (lv_at hl 0 rfl) ?_
            refine va_get (D := dg) (ci := 7) (v := .ref xl) (C := RX7) (T := TX7) (N := 7) hx hb hts in7 hown hK hP 0 rfl rfl 0 (by decide) f12 (fun _ h9 => h9) rfl dX7_relink_54 ?_
            refine lv_iload_n hx hb dX7_relink_57 rfl (lv_at hl 3 rfl) ?_
            refine call_x (va_runV (As := [.int (nI (ek_ + j_))]) (rest := []) ⟨hx, hb, hml, hown, hts⟩ (kX1_fits ln dg tq (h0 := xl) (h1 := xlc) (c := x_) (s := rlS s ek_ j_) (hR := hR2) (hW := hW2) (e := ek_ + j_) (he := (by omega)) H.size) (cwV 1 hts gX7_relink_X1_fits rfl rfl rfl hdX1_fits ⟨Nat.le_of_ble_eq_true rfl, Nat.le_of_ble_eq_true rfl⟩) (preVR hK hN hP [1, 2] rfl 1 rfl rfl [.int (nI (ek_ + j_))]) rfl rfl hl.1 rfl (lv_room (Nat.le_of_ble_eq_true rfl)) dX7_relink_58 ⟨Nat.le_refl _, Nat.le_refl _⟩) hP hS hA (fun H locs hP hS => ?_)
            refine r_if_ne_b (tgt := 84) hx hb dX7_relink_61 (by decide) (fun c61 => ?_) (fun c61 => ?_)
            · skip
              refine lv_iinc (v := (nI ((ek_ + j_) + 1))) (lv' := [(3, .int (nI ((ek_ + j_) + 1))), (0, .ref x0), (1, .int (nI ek_)), (2, .int (nI n_))]) hx hb dX7_relink_84 hl (k := 3) rfl (nI_add _ _) (by decide) rfl (fun ls hl => ?_)
              refine lv_goto (tgt := 29) hx hb dX7_relink_87 (by decide) ?_
              exact ih29 (j_ + 1) n_ x_ H locs ls (⟨by rw [rlN, if_neg (fun z => by rw [show fitE (rlS s ek_ j_) (ek_ + j_) = true from c61] at z; cases z.2), hi1]; rfl, by omega, by rw [xrlS, if_neg (fun z => by rw [show fitE (rlS s ek_ j_) (ek_ + j_) = true from c61] at z; cases z.2), hi3]⟩) (by omega) (hP.sub [0, 1, 2, 3, 4] rfl) (hD.sub [0, 1, 2, 3, 4] (by decide) rfl) hS (lv_sub hl [1, 2, 3, 0] rfl)
            · skip
              refine lv_aload_n hx hb dX7_relink_64 rfl (lv_at hl 0 rfl) ?_
              refine va_get (D := dg) (ci := 7) (v := .ref xl) (C := RX7) (T := TX7) (N := 7) hx hb hts in7 hown hK hP 0 rfl rfl 0 (by decide) f12 (fun _ h9 => h9) rfl dX7_relink_65 ?_
              refine lv_iload_n hx hb dX7_relink_68 rfl (lv_at hl 3 rfl) ?_
              refine lv_iconst (v := (nI 5)) hx hb dX7_relink_69 (by decide) ?_
              refine lv_aload_n hx hb dX7_relink_70 rfl (lv_at hl 0 rfl) ?_
              refine va_get (D := dg) (ci := 7) (v := .ref xl) (C := RX7) (T := TX7) (N := 7) hx hb hts in7 hown hK hP 0 rfl rfl 0 (by decide) f12 (fun _ h9 => h9) rfl dX7_relink_71 ?_
              refine lv_iload_n hx hb dX7_relink_74 rfl (lv_at hl 3 rfl) ?_
              refine call_x (va_runV (As := [.int (nI (ek_ + j_))]) (rest := [.int (nI 5), .int (nI (ek_ + j_)), .ref xl]) ⟨hx, hb, hml, hown, hts⟩ (kX1_fittingLink ln dg tq (h0 := xl) (h1 := xlc) (c := x_) (e := ek_ + j_) (p := pa (rlS s ek_ j_) (ek_ + j_)) (he := (by omega)) (hp := (fun h0 => hR2.xpa hW2 h0 (by omega))) (hp2 := (fun h0 => by have hpl := hW2.pl h0 (by omega); omega)) H.size) (cwV 1 hts gX7_relink_X1_fittingLink rfl rfl rfl hdX1_fittingLink ⟨Nat.le_of_ble_eq_true rfl, Nat.le_of_ble_eq_true rfl⟩) (preVR hK hN hP [1, 2] rfl 1 rfl rfl [.int (nI (ek_ + j_))]) rfl rfl hl.1 rfl (lv_room (Nat.le_of_ble_eq_true rfl)) dX7_relink_75 ⟨Nat.le_refl _, Nat.le_refl _⟩) hP hS hA (fun H locs hP hS => ?_)
              refine r_top (show (xfit x_ (ek_ + j_) (pa (rlS s ek_ j_) (ek_ + j_))) = (fit (rlS s ek_ j_) (ek_ + j_)) from hfx) ?_
              refine call_v (wr := [(x0, .inr (7, [.ref xl, .ref xh, .ref xt, .ref xp, .ref xo, .ref xu, .ref xw])), (xh, .inr (0, [.ref xhc, .int (nI (recN st)), .int (nI ((nx + 1) % 5))])), (xhc, .inl (tq.1, 7365, .inl (va_cpy c hc 0 (nx * 1473) 1473)))]) (va_runV (As := [.int (nI (ek_ + j_)), .int (nI 5), .int (fit (rlS s ek_ j_) (ek_ + j_))]) (rest := []) ⟨hx, hb, hml, hown, hts⟩ (kX1_setOfEntry ln dg tq (h0 := xl) (h1 := xlc) (c := x_) (e := ek_ + j_) (f := 5) (v := (fit (rlS s ek_ j_) (ek_ + j_))) (he := (by omega)) (hf := (by omega)) H.size) (cwV 3 hts gX7_relink_X1_setOfEntry rfl rfl rfl hdX1_setOfEntry ⟨Nat.le_of_ble_eq_true rfl, Nat.le_of_ble_eq_true rfl⟩) (preVB hK hN hP hD [1, 2] rfl rfl rfl 1 rfl rfl [.int (nI (ek_ + j_)), .int (nI 5), .int (fit (rlS s ek_ j_) (ek_ + j_))]) rfl rfl hl.1 rfl (lv_room (Nat.le_of_ble_eq_true rfl)) dX7_relink_78 ⟨Nat.le_refl _, Nat.le_refl _⟩) hP hD hS hA [1, 2] [0, 3, 4] rfl rfl (by decide) (by decide) (fun u78 H locs hw78 hP hD hS => ?_)
              have hP : va_P dg vwCl [(x0, .inr (7, [.ref xl, .ref xh, .ref xt, .ref xp, .ref xo, .ref xu, .ref xw])), (xh, .inr (0, [.ref xhc, .int (nI (recN st)), .int (nI ((nx + 1) % 5))])), (xhc, .inl (tq.1, 7365, .inl (va_cpy c hc 0 (nx * 1473) 1473))), (xl, .inr (1, [.ref xlc])), (xlc, .inl (tq.1, 1473, .inl (upd x_ (5 + (ek_ + j_) * 7 + 5) (fit (rlS s ek_ j_) (ek_ + j_)))))] H := hP
              have hD : va_D AA [(x0, .inr (7, [.ref xl, .ref xh, .ref xt, .ref xp, .ref xo, .ref xu, .ref xw])), (xh, .inr (0, [.ref xhc, .int (nI (recN st)), .int (nI ((nx + 1) % 5))])), (xhc, .inl (tq.1, 7365, .inl (va_cpy c hc 0 (nx * 1473) 1473))), (xl, .inr (1, [.ref xlc])), (xlc, .inl (tq.1, 1473, .inl (upd x_ (5 + (ek_ + j_) * 7 + 5) (fit (rlS s ek_ j_) (ek_ + j_)))))] := hD
              refine lv_iinc (v := (nI (n_ + 1))) (lv' := [(2, .int (nI (n_ + 1))), (0, .ref x0), (1, .int (nI ek_)), (3, .int (nI (ek_ + j_)))]) hx hb dX7_relink_81 hl (k := 2) rfl (nI_add _ _) (by decide) rfl (fun ls hl => ?_)
              refine lv_iinc (v := (nI ((ek_ + j_) + 1))) (lv' := [(3, .int (nI ((ek_ + j_) + 1))), (2, .int (nI (n_ + 1))), (0, .ref x0), (1, .int (nI ek_))]) hx hb dX7_relink_84 hl (k := 3) rfl (nI_add _ _) (by decide) rfl (fun ls hl => ?_)
              refine lv_goto (tgt := 29) hx hb dX7_relink_87 (by decide) ?_
              exact ih29 (j_ + 1) (n_ + 1) (upd x_ (5 + (ek_ + j_) * 7 + 5) (fit (rlS s ek_ j_) (ek_ + j_))) H locs ls (⟨by rw [rlN, if_pos ⟨c50, c61⟩, hi1], by omega, by rw [xrlS, if_pos ⟨c50, c61⟩, hi3]⟩) (by omega) (hP.sub [0, 3, 4, 1, 2] rfl) (hD.sub [0, 3, 4, 1, 2] (by decide) rfl) hS (lv_sub hl [2, 3, 1, 0] rfl)
    exact loop29 _ 0 0 c H locs ls (⟨rfl, by omega, rfl⟩) (Nat.lt_succ_self _) (hP.sub [0, 3, 4, 1, 2] rfl) (hD.sub [0, 3, 4, 1, 2] (by decide) rfl) hS (lv_sub hl [2, 3, 1, 0] rfl)
  · skip
    refine lv_ldc hx hb hown k65 dX7_relink_11 ?_
    exact hret (-100001) (c, hc, st, nx) H locs _ ls (show (-100001) = (rkR s x) ∧ (ACT s c hc st nx (hasN x (nE s)) (rkS s x) c hc st nx) from (⟨by unfold rkR; rw [c8]; rfl, ACT.no c8⟩)) rfl (hP.sub [0, 1, 2, 3, 4] rfl) (hD.sub [0, 1, 2, 3, 4] (by decide) rfl) hS dX7_relink_13
theorem hdX7_writeAnew : yX7_writeAnew.cls = RX7 ∧ yX7_writeAnew.cls ≠ "java/lang/invoke/MethodHandle" ∧ yX7_writeAnew.cls ≠ "java/lang/invoke/VarHandle" ∧ (parseMethodDescriptor yX7_writeAnew.desc).map (fun d => d.parameters.length) = some 0 := by decide +kernel
set_option maxHeartbeats 4000000 in
set_option maxRecDepth 100000 in
theorem kX7_writeAnew (ln : Launch) (dg : va_G) (tq : ClassId × ClassId) (x0 xl xh xt xp xo xu xw : Nat)(xlc : Nat) (c : Row) (s : Row) (hF : FS s c)(xus : Nat) (uf : Row)(xwe : Nat) (len : Nat) (wf : Row) (b : Nat) (hb0 : b < nB s) (hlen : len = mn s b) (hG : ∀ k, k < mn s b → wf k = nI (brE s b k)) (hr : nE s + adN s b ≤ 60) : MV ln yX7_writeAnew wsX7_writeAnew (rmm 4 93) dg tq [.ref x0] [(x0, .inr (7, [.ref xl, .ref xh, .ref xt, .ref xp, .ref xo, .ref xu, .ref xw])), (xl, .inr (1, [.ref xlc])), (xlc, .inl (tq.1, 1473, .inl c)), (xu, .inr (5, [.ref xus])), (xus, .inl (tq.1, 6, .inl uf)), (xw, .inr (3, [.ref xwe, .int (nI len)])), (xwe, .inl (tq.1, 60, .inl wf))] (fun (u : Row × Row) => WAI s c b (mn s b) u.1) (fun u => [(x0, .inr (7, [.ref xl, .ref xh, .ref xt, .ref xp, .ref xo, .ref xu, .ref xw])), (xl, .inr (1, [.ref xlc])), (xlc, .inl (tq.1, 1473, .inl u.1)), (xu, .inr (5, [.ref xus])), (xus, .inl (tq.1, 6, .inl u.2)), (xw, .inr (3, [.ref xwe, .int (nI len)])), (xwe, .inl (tq.1, 60, .inl wf))]) := by
  refine MV.enter cX7_writeAnew 3 (by decide) rfl rfl (Nat.le_of_ble_eq_true rfl) ?_
  intro pP eE sS mM aA bB mT cC QQ AA hA hAT hret H locs hP hD hS ls hl
  obtain ⟨hx, hb, hml, hown, hts, hK, hN⟩ := hAT
  have hown : sS.vm.findClass RX7 = some mM.cls := hown
  have hl : lv_has ls 3 [(0, .ref x0)] := hl
  have in7 : ∀ w ∈ u_ws RX7 TX7 7, w ∈ wsX7_writeAnew := (fun _ h9 => List.mem_cons_of_mem _ (List.mem_append_left _ (List.mem_append_left _ (List.mem_append_left _ (List.mem_append_right _ h9)))))
  have f47 := hts (.fieldLink RX7 47 "OrphanChain" "purse" "LOrphanChain$Purse;") (List.mem_of_getElem? (i := 1) rfl)
  have f12 := hts (.fieldLink RX7 12 "OrphanChain" "ledger" "LOrphanChain$Ledger;") (List.mem_of_getElem? (i := 2) rfl)
  have f54 := hts (.fieldLink RX7 54 "OrphanChain" "path" "LOrphanChain$Path;") (List.mem_of_getElem? (i := 3) rfl)
  obtain ⟨hR, hW, hs0, hs1⟩ := id hF
  have hn60 := hW.n60
  have hb10 := hW.b10
  have hs8 := hW.s8
  have hhn := hW.hn
  have hcl := cntF_le (loudB s) (nB s)
  have hmn := hW.mn60 hb0
  refine lv_aload_n hx hb dX7_writeAnew_0 rfl (lv_at hl 0 rfl) ?_
  refine va_get (D := dg) (ci := 7) (v := .ref xu) (C := RX7) (T := TX7) (N := 7) hx hb hts in7 hown hK hP 0 rfl rfl 5 (by decide) f47 (fun _ h9 => h9) rfl dX7_writeAnew_1 ?_
  refine lv_aload_n hx hb dX7_writeAnew_4 rfl (lv_at hl 0 rfl) ?_
  refine va_get (D := dg) (ci := 7) (v := .ref xl) (C := RX7) (T := TX7) (N := 7) hx hb hts in7 hown hK hP 0 rfl rfl 0 (by decide) f12 (fun _ h9 => h9) rfl dX7_writeAnew_5 ?_
  refine lv_aload_n hx hb dX7_writeAnew_8 rfl (lv_at hl 0 rfl) ?_
  refine va_get (D := dg) (ci := 7) (v := .ref xl) (C := RX7) (T := TX7) (N := 7) hx hb hts in7 hown hK hP 0 rfl rfl 0 (by decide) f12 (fun _ h9 => h9) rfl dX7_writeAnew_9 ?_
  refine lv_iconst (v := (nI 1)) hx hb dX7_writeAnew_12 (by decide) ?_
  refine call_x (va_runV (As := [.int (nI 1)]) (rest := [.ref xl, .ref xu]) ⟨hx, hb, hml, hown, hts⟩ (kX1_number ln dg tq (h0 := xl) (h1 := xlc) (c := c) (k := 1) (hk := (by omega)) H.size) (cwV 1 hts gX7_writeAnew_X1_number rfl rfl rfl hdX1_number ⟨Nat.le_of_ble_eq_true rfl, Nat.le_of_ble_eq_true rfl⟩) (preVR hK hN hP [1, 2] rfl 1 rfl rfl [.int (nI 1)]) rfl rfl hl.1 rfl (lv_room (Nat.le_of_ble_eq_true rfl)) dX7_writeAnew_13 ⟨Nat.le_refl _, Nat.le_refl _⟩) hP hS hA (fun H locs hP hS => ?_)
  refine r_top (show (c 1) = (nI (hE s)) from (hR.hh hW)) ?_
  refine call_v (wr := [(x0, .inr (7, [.ref xl, .ref xh, .ref xt, .ref xp, .ref xo, .ref xu, .ref xw])), (xw, .inr (3, [.ref xwe, .int (nI len)])), (xwe, .inl (tq.1, 60, .inl wf))]) (va_runV (As := [.ref xl, .int (nI (hE s))]) (rest := []) ⟨hx, hb, hml, hown, hts⟩ (kX5_fill ln dg tq (u0 := xu) (u1 := xus) (f := uf) (h0 := xl) (h1 := xlc) (c := c) (s := s) (hR := (by omega)) (hW := (by omega)) (leaf := hE s) (hl0 := (by omega)) H.size) (cwV 2 hts gX7_writeAnew_X5_fill rfl rfl rfl hdX5_fill ⟨Nat.le_of_ble_eq_true rfl, Nat.le_of_ble_eq_true rfl⟩) (preVB hK hN hP hD [3, 4, 1, 2] rfl rfl rfl 3 rfl rfl [.ref xl, .int (nI (hE s))]) rfl rfl hl.1 rfl (lv_room (Nat.le_of_ble_eq_true rfl)) dX7_writeAnew_16 ⟨Nat.le_refl _, Nat.le_refl _⟩) hP hD hS hA [3, 4, 1, 2] [0, 5, 6] rfl rfl (by decide) (by decide) (fun u16 H locs hw16 hP hD hS => ?_)
  obtain ⟨g16, rfl⟩ : ∃ z, z = u16 := ⟨_, rfl⟩
  have hP : va_P dg vwCl [(x0, .inr (7, [.ref xl, .ref xh, .ref xt, .ref xp, .ref xo, .ref xu, .ref xw])), (xw, .inr (3, [.ref xwe, .int (nI len)])), (xwe, .inl (tq.1, 60, .inl wf)), (xu, .inr (5, [.ref xus])), (xus, .inl (tq.1, 6, .inl g16)), (xl, .inr (1, [.ref xlc])), (xlc, .inl (tq.1, 1473, .inl c))] H := hP
  have hD : va_D AA [(x0, .inr (7, [.ref xl, .ref xh, .ref xt, .ref xp, .ref xo, .ref xu, .ref xw])), (xw, .inr (3, [.ref xwe, .int (nI len)])), (xwe, .inl (tq.1, 60, .inl wf)), (xu, .inr (5, [.ref xus])), (xus, .inl (tq.1, 6, .inl g16)), (xl, .inr (1, [.ref xlc])), (xlc, .inl (tq.1, 1473, .inl c))] := hD
  refine lv_iconst (v := (nI 0)) hx hb dX7_writeAnew_19 (by decide) ?_
  refine lv_istore_n (lv' := [(1, .int (nI 0)), (0, .ref x0)]) hx hb dX7_writeAnew_20 rfl hl (by decide) rfl (fun ls hl => ?_)
  have loop21 : ∀ (fu : Nat) (j_ : Nat) (x_ : Row) (f_ : Row) (H : Heap) (locs : List Loc) (ls : Array Slot), (j_ ≤ mn s b ∧ WAI s c b j_ x_ ∧ SV f_ (adv s b j_)) → mn s b - j_ < fu → va_P dg vwCl [(x0, .inr (7, [.ref xl, .ref xh, .ref xt, .ref xp, .ref xo, .ref xu, .ref xw])), (xl, .inr (1, [.ref xlc])), (xlc, .inl (tq.1, 1473, .inl x_)), (xu, .inr (5, [.ref xus])), (xus, .inl (tq.1, 6, .inl f_)), (xw, .inr (3, [.ref xwe, .int (nI len)])), (xwe, .inl (tq.1, 60, .inl wf))] H → va_D AA [(x0, .inr (7, [.ref xl, .ref xh, .ref xt, .ref xp, .ref xo, .ref xu, .ref xw])), (xl, .inr (1, [.ref xlc])), (xlc, .inl (tq.1, 1473, .inl x_)), (xu, .inr (5, [.ref xus])), (xus, .inl (tq.1, 6, .inl f_)), (xw, .inr (3, [.ref xwe, .int (nI len)])), (xwe, .inl (tq.1, 60, .inl wf))] → va_S AA sS.heap H locs → lv_has ls 3 [(0, .ref x0), (1, .int (nI j_))] → W pP ln eE (rmm 4 93) sS mM aA bB mT cC H locs 0 0 QQ (F0 mM 21 ls []) := by
    intro fu
    induction fu with
    | zero => intro j_ x_ f_ H locs ls _ hm; exact absurd hm (Nat.not_lt_zero _)
    | succ fu ih21 =>
      intro j_ x_ f_ H locs ls hinv hm hP hD hS hl
      obtain ⟨hi1, hAW, hV⟩ := hinv
      refine lv_iload_n hx hb dX7_writeAnew_21 rfl (lv_at hl 1 rfl) ?_
      refine lv_aload_n hx hb dX7_writeAnew_22 rfl (lv_at hl 0 rfl) ?_
      refine va_get (D := dg) (ci := 7) (v := .ref xw) (C := RX7) (T := TX7) (N := 7) hx hb hts in7 hown hK hP 0 rfl rfl 6 (by decide) f54 (fun _ h9 => h9) rfl dX7_writeAnew_23 ?_
      refine call_x (va_runV (As := []) (rest := [.int (nI j_)]) ⟨hx, hb, hml, hown, hts⟩ (kX3_length ln dg tq (w0 := xw) (w1 := xwe) (len := len) (pc := wf) H.size) (cwV 0 hts gX7_writeAnew_X3_length rfl rfl rfl hdX3_length ⟨Nat.le_of_ble_eq_true rfl, Nat.le_of_ble_eq_true rfl⟩) (preVR hK hN hP [5, 6] rfl 5 rfl rfl []) rfl rfl hl.1 rfl (lv_room (Nat.le_of_ble_eq_true rfl)) dX7_writeAnew_26 ⟨Nat.le_refl _, Nat.le_refl _⟩) hP hS hA (fun H locs hP hS => ?_)
      refine r_icmp_ge (tgt := 70) hx hb (nI_tI (by omega)) (nI_tI (by omega)) dX7_writeAnew_29 (by decide) (fun c29 => ?_) (fun c29 => ?_)
      · skip
        exact hret (x_, f_) H locs _ ls (show WAI s c b (mn s b) x_ from (by rw [show mn s b = j_ by omega]; exact hAW)) (hP.sub [0, 1, 2, 3, 4, 5, 6] rfl) (hD.sub [0, 1, 2, 3, 4, 5, 6] (by decide) rfl) hS dX7_writeAnew_70
      · skip
        obtain ⟨hR2, hW2, hK1, hK2, hSE, hnE, hbal, hA8, hA9⟩ := hAW
        have hAW : WAI s c b j_ x_ := ⟨hR2, hW2, hK1, hK2, hSE, hnE, hbal, hA8, hA9⟩
        have hbe := brE_in hW hb0 (k := j_) (by omega)
        obtain ⟨tr1, tr2⟩ := tr_eq hW hSE (v := adv s b j_) hbe
        have hB2 := trV_bd hW (bal_bd hW hhn) (E := brE s b) (j := j_) (fun k hk => brE_in hW hb0 (by omega))
        have hnn := hW2.n60
        refine lv_aload_n hx hb dX7_writeAnew_32 rfl (lv_at hl 0 rfl) ?_
        refine va_get (D := dg) (ci := 7) (v := .ref xw) (C := RX7) (T := TX7) (N := 7) hx hb hts in7 hown hK hP 0 rfl rfl 6 (by decide) f54 (fun _ h9 => h9) rfl dX7_writeAnew_33 ?_
        refine lv_iload_n hx hb dX7_writeAnew_36 rfl (lv_at hl 1 rfl) ?_
        refine call_x (va_runV (As := [.int (nI j_)]) (rest := []) ⟨hx, hb, hml, hown, hts⟩ (kX3_at ln dg tq (w0 := xw) (w1 := xwe) (len := len) (pc := wf) (k := j_) (hk := (by omega)) (hlen := (by omega)) H.size) (cwV 1 hts gX7_writeAnew_X3_at rfl rfl rfl hdX3_at ⟨Nat.le_of_ble_eq_true rfl, Nat.le_of_ble_eq_true rfl⟩) (preVR hK hN hP [5, 6] rfl 5 rfl rfl [.int (nI j_)]) rfl rfl hl.1 rfl (lv_room (Nat.le_of_ble_eq_true rfl)) dX7_writeAnew_37 ⟨Nat.le_refl _, Nat.le_refl _⟩) hP hS hA (fun H locs hP hS => ?_)
        refine r_top (show (wf j_) = (nI (brE s b j_)) from hG j_ (by omega)) ?_
        refine lv_istore_n (lv' := [(2, .int (nI (brE s b j_))), (0, .ref x0), (1, .int (nI j_))]) hx hb dX7_writeAnew_40 rfl hl (by decide) rfl (fun ls hl => ?_)
        refine lv_aload_n hx hb dX7_writeAnew_41 rfl (lv_at hl 1 rfl) ?_
        refine va_get (D := dg) (ci := 7) (v := .ref xu) (C := RX7) (T := TX7) (N := 7) hx hb hts in7 hown hK hP 0 rfl rfl 5 (by decide) f47 (fun _ h9 => h9) rfl dX7_writeAnew_42 ?_
        refine lv_aload_n hx hb dX7_writeAnew_45 rfl (lv_at hl 1 rfl) ?_
        refine va_get (D := dg) (ci := 7) (v := .ref xl) (C := RX7) (T := TX7) (N := 7) hx hb hts in7 hown hK hP 0 rfl rfl 0 (by decide) f12 (fun _ h9 => h9) rfl dX7_writeAnew_46 ?_
        refine lv_iload_n hx hb dX7_writeAnew_49 rfl (lv_at hl 0 rfl) ?_
        refine call_w (wr := [(x0, .inr (7, [.ref xl, .ref xh, .ref xt, .ref xp, .ref xo, .ref xu, .ref xw])), (xw, .inr (3, [.ref xwe, .int (nI len)])), (xwe, .inl (tq.1, 60, .inl wf))]) (va_runV (As := [.ref xl, .int (nI (brE s b j_))]) (rest := []) ⟨hx, hb, hml, hown, hts⟩ (kX5_addIfAfforded ln dg tq (u0 := xu) (u1 := xus) (f := f_) (h0 := xl) (h1 := xlc) (c := x_) (s := wF s b j_) (hR := hR2) (hW := hW2) (v := adv s b j_) (hV := hV) (N := 58941 + 999 * j_) (hB := hB2) (hn9 := (by omega)) (e := brE s b j_) (he := (by rw [hnE]; omega)) H.size) (cwV 2 hts gX7_writeAnew_X5_addIfAfforded rfl rfl rfl hdX5_addIfAfforded ⟨Nat.le_of_ble_eq_true rfl, Nat.le_of_ble_eq_true rfl⟩) (preVB hK hN hP hD [3, 4, 1, 2] rfl rfl rfl 3 rfl rfl [.ref xl, .int (nI (brE s b j_))]) rfl rfl hl.1 rfl (lv_room (Nat.le_of_ble_eq_true rfl)) dX7_writeAnew_50 ⟨Nat.le_refl _, Nat.le_refl _⟩) hP hD hS hA [3, 4, 1, 2] [0, 5, 6] rfl rfl (by decide) (by decide) (fun r50 u50 H locs hw50 hP hD hS => ?_)
        obtain ⟨g50, rfl⟩ : ∃ z, z = u50 := ⟨_, rfl⟩
        have hP : va_P dg vwCl [(x0, .inr (7, [.ref xl, .ref xh, .ref xt, .ref xp, .ref xo, .ref xu, .ref xw])), (xw, .inr (3, [.ref xwe, .int (nI len)])), (xwe, .inl (tq.1, 60, .inl wf)), (xu, .inr (5, [.ref xus])), (xus, .inl (tq.1, 6, .inl g50)), (xl, .inr (1, [.ref xlc])), (xlc, .inl (tq.1, 1473, .inl x_))] H := hP
        have hD : va_D AA [(x0, .inr (7, [.ref xl, .ref xh, .ref xt, .ref xp, .ref xo, .ref xu, .ref xw])), (xw, .inr (3, [.ref xwe, .int (nI len)])), (xwe, .inl (tq.1, 60, .inl wf)), (xu, .inr (5, [.ref xus])), (xus, .inl (tq.1, 6, .inl g50)), (xl, .inr (1, [.ref xlc])), (xlc, .inl (tq.1, 1473, .inl x_))] := hD
        obtain ⟨hr50, hw50⟩ := hw50
        subst hr50
        refine r_top (show (bI (aff (wF s b j_) (adv s b j_) (brE s b j_))) = (bI (aff s (adv s b j_) (brE s b j_))) from by rw [tr1]) ?_
        have hst2 : stp (wF s b j_) (adv s b j_) (brE s b j_) = adv s b (j_ + 1) := by unfold stp; rw [tr1, tr2]; rfl
        rw [hst2] at hw50
        refine r_if_eq_b (tgt := 64) hx hb dX7_writeAnew_53 (by decide) (fun c53 => ?_) (fun c53 => ?_)
        · skip
          refine lv_iinc (v := (nI (j_ + 1))) (lv' := [(1, .int (nI (j_ + 1))), (2, .int (nI (brE s b j_))), (0, .ref x0)]) hx hb dX7_writeAnew_64 hl (k := 2) rfl (nI_add _ _) (by decide) rfl (fun ls hl => ?_)
          refine lv_goto (tgt := 21) hx hb dX7_writeAnew_67 (by decide) ?_
          exact ih21 (j_ + 1) x_ g50 H locs ls (⟨by omega, WAI_n hAW c53, hw50⟩) (by omega) (hP.sub [0, 5, 6, 3, 4, 1, 2] rfl) (hD.sub [0, 5, 6, 3, 4, 1, 2] (by decide) rfl) hS (lv_sub hl [2, 0] rfl)
        · skip
          have hrr : nE s + trN s (bal s (hE s)) (brE s b) (j_ + 1) ≤ 60 := by have h1 := trN_mono s (bal s (hE s)) (brE s b) (i := j_ + 1) (j := mn s b) (by omega); unfold adN at hr; omega
          have hr1 : nE (wF s b j_) < 60 := by rw [hnE]; rw [trN, show aff s (trV s (bal s (hE s)) (brE s b) j_) (brE s b j_) = true from c53] at hrr; simp at hrr; omega
          refine lv_aload_n hx hb dX7_writeAnew_56 rfl (lv_at hl 1 rfl) ?_
          refine va_get (D := dg) (ci := 7) (v := .ref xl) (C := RX7) (T := TX7) (N := 7) hx hb hts in7 hown hK hP 0 rfl rfl 0 (by decide) f12 (fun _ h9 => h9) rfl dX7_writeAnew_57 ?_
          refine lv_iload_n hx hb dX7_writeAnew_60 rfl (lv_at hl 0 rfl) ?_
          refine call_v (wr := [(x0, .inr (7, [.ref xl, .ref xh, .ref xt, .ref xp, .ref xo, .ref xu, .ref xw])), (xw, .inr (3, [.ref xwe, .int (nI len)])), (xwe, .inl (tq.1, 60, .inl wf)), (xu, .inr (5, [.ref xus])), (xus, .inl (tq.1, 6, .inl g50))]) (va_runV (As := [.int (nI (brE s b j_))]) (rest := []) ⟨hx, hb, hml, hown, hts⟩ (kX1_addAnew ln dg tq (h0 := xl) (h1 := xlc) (c := x_) (s := wF s b j_) (hR := hR2) (hW := hW2) (e := brE s b j_) (hn := hr1) (he := (by rw [hnE]; omega)) H.size) (cwV 1 hts gX7_writeAnew_X1_addAnew rfl rfl rfl hdX1_addAnew ⟨Nat.le_of_ble_eq_true rfl, Nat.le_of_ble_eq_true rfl⟩) (preVB hK hN hP hD [5, 6] rfl rfl rfl 5 rfl rfl [.int (nI (brE s b j_))]) rfl rfl hl.1 rfl (lv_room (Nat.le_of_ble_eq_true rfl)) dX7_writeAnew_61 ⟨Nat.le_refl _, Nat.le_refl _⟩) hP hD hS hA [5, 6] [0, 1, 2, 3, 4] rfl rfl (by decide) (by decide) (fun u61 H locs hw61 hP hD hS => ?_)
          have hP : va_P dg vwCl [(x0, .inr (7, [.ref xl, .ref xh, .ref xt, .ref xp, .ref xo, .ref xu, .ref xw])), (xw, .inr (3, [.ref xwe, .int (nI len)])), (xwe, .inl (tq.1, 60, .inl wf)), (xu, .inr (5, [.ref xus])), (xus, .inl (tq.1, 6, .inl g50)), (xl, .inr (1, [.ref xlc])), (xlc, .inl (tq.1, 1473, .inl (xputE (wF s b j_) x_ (me (wF s b j_) (brE s b j_) 1) (nI (a1 (wF s b j_) (brE s b j_))) (nI (a2 (wF s b j_) (brE s b j_))) (me (wF s b j_) (brE s b j_) 4) (nI (brE s b j_)))))] H := hP
          have hD : va_D AA [(x0, .inr (7, [.ref xl, .ref xh, .ref xt, .ref xp, .ref xo, .ref xu, .ref xw])), (xw, .inr (3, [.ref xwe, .int (nI len)])), (xwe, .inl (tq.1, 60, .inl wf)), (xu, .inr (5, [.ref xus])), (xus, .inl (tq.1, 6, .inl g50)), (xl, .inr (1, [.ref xlc])), (xlc, .inl (tq.1, 1473, .inl (xputE (wF s b j_) x_ (me (wF s b j_) (brE s b j_) 1) (nI (a1 (wF s b j_) (brE s b j_))) (nI (a2 (wF s b j_) (brE s b j_))) (me (wF s b j_) (brE s b j_) 4) (nI (brE s b j_)))))] := hD
          refine lv_iinc (v := (nI (j_ + 1))) (lv' := [(1, .int (nI (j_ + 1))), (2, .int (nI (brE s b j_))), (0, .ref x0)]) hx hb dX7_writeAnew_64 hl (k := 2) rfl (nI_add _ _) (by decide) rfl (fun ls hl => ?_)
          refine lv_goto (tgt := 21) hx hb dX7_writeAnew_67 (by decide) ?_
          exact ih21 (j_ + 1) (xputE (wF s b j_) x_ (me (wF s b j_) (brE s b j_) 1) (nI (a1 (wF s b j_) (brE s b j_))) (nI (a2 (wF s b j_) (brE s b j_))) (me (wF s b j_) (brE s b j_) 4) (nI (brE s b j_))) g50 H locs ls (⟨by omega, WAI_y hW hb0 (by omega) hAW c53 hrr, hw50⟩) (by omega) (hP.sub [0, 5, 6, 3, 4, 1, 2] rfl) (hD.sub [0, 5, 6, 3, 4, 1, 2] (by decide) rfl) hS (lv_sub hl [2, 0] rfl)
  exact loop21 _ 0 c g16 H locs ls (⟨by omega, WAI_0 hF b, hw16⟩) (Nat.lt_succ_self _) (hP.sub [0, 5, 6, 3, 4, 1, 2] rfl) (hD.sub [0, 5, 6, 3, 4, 1, 2] (by decide) rfl) hS (lv_sub hl [1, 0] rfl)
theorem hdX7_adopt : yX7_adopt.cls = RX7 ∧ yX7_adopt.cls ≠ "java/lang/invoke/MethodHandle" ∧ yX7_adopt.cls ≠ "java/lang/invoke/VarHandle" ∧ (parseMethodDescriptor yX7_adopt.desc).map (fun d => d.parameters.length) = some 2 := by decide +kernel
set_option maxHeartbeats 4000000 in
set_option maxRecDepth 100000 in
theorem kX7_adopt (ln : Launch) (dg : va_G) (tq : ClassId × ClassId) (x0 xl xh xt xp xo xu xw : Nat)(xlc : Nat) (c : Row) (s : Row) (hF : FS s c)(xhc : Nat) (st nx : Nat) (hc : Row) (hst : st ≤ 5) (hnx : nx < 5)(xus : Nat) (uf : Row)(xwe : Nat) (wl : Int32) (wf : Row) (x how : Int32) : MW ln yX7_adopt wsX7_adopt (rmm 5 115) dg tq [.ref x0, .int x, .int how] [(x0, .inr (7, [.ref xl, .ref xh, .ref xt, .ref xp, .ref xo, .ref xu, .ref xw])), (xl, .inr (1, [.ref xlc])), (xlc, .inl (tq.1, 1473, .inl c)), (xh, .inr (0, [.ref xhc, .int (nI st), .int (nI nx)])), (xhc, .inl (tq.1, 7365, .inl hc)), (xu, .inr (5, [.ref xus])), (xus, .inl (tq.1, 6, .inl uf)), (xw, .inr (3, [.ref xwe, .int wl])), (xwe, .inl (tq.1, 60, .inl wf))] (fun (r : Int32) (u : Row × Row × Nat × Nat × Row × Int32 × Row) => r = (adR s x how) ∧ (ACT s c hc st nx (adO s x how) (adS s x) u.1 u.2.1 u.2.2.1 u.2.2.2.1)) (fun u => [(x0, .inr (7, [.ref xl, .ref xh, .ref xt, .ref xp, .ref xo, .ref xu, .ref xw])), (xl, .inr (1, [.ref xlc])), (xlc, .inl (tq.1, 1473, .inl u.1)), (xh, .inr (0, [.ref xhc, .int (nI u.2.2.1), .int (nI u.2.2.2.1)])), (xhc, .inl (tq.1, 7365, .inl u.2.1)), (xu, .inr (5, [.ref xus])), (xus, .inl (tq.1, 6, .inl u.2.2.2.2.1)), (xw, .inr (3, [.ref xwe, .int u.2.2.2.2.2.1])), (xwe, .inl (tq.1, 60, .inl u.2.2.2.2.2.2))]) := by
  refine MW.enter cX7_adopt 4 .int (by decide) rfl rfl (Nat.le_of_ble_eq_true rfl) ?_
  intro pP eE sS mM aA bB mT cC QQ AA hA hAT hret H locs hP hD hS ls hl
  obtain ⟨hx, hb, hml, hown, hts, hK, hN⟩ := hAT
  have hown : sS.vm.findClass RX7 = some mM.cls := hown
  have hl : lv_has ls 4 [(0, .ref x0), (1, .int x), (2, .int how)] := hl
  have in7 : ∀ w ∈ u_ws RX7 TX7 7, w ∈ wsX7_adopt := (fun _ h9 => List.mem_cons_of_mem _ (List.mem_append_left _ (List.mem_append_left _ (List.mem_append_left _ (List.mem_append_left _ (List.mem_append_right _ h9))))))
  have f12 := hts (.fieldLink RX7 12 "OrphanChain" "ledger" "LOrphanChain$Ledger;") (List.mem_of_getElem? (i := 1) rfl)
  have k65 := hts (.constant RX7 65 (-100001)) (List.mem_of_getElem? (i := 2) rfl)
  have f47 := hts (.fieldLink RX7 47 "OrphanChain" "purse" "LOrphanChain$Purse;") (List.mem_of_getElem? (i := 4) rfl)
  have f54 := hts (.fieldLink RX7 54 "OrphanChain" "path" "LOrphanChain$Path;") (List.mem_of_getElem? (i := 5) rfl)
  have f19 := hts (.fieldLink RX7 19 "OrphanChain" "history" "LOrphanChain$History;") (List.mem_of_getElem? (i := 7) rfl)
  have k96 := hts (.constant RX7 96 (-100003)) (List.mem_of_getElem? (i := 6) rfl)
  have k80 := hts (.constant RX7 80 (-100002)) (List.mem_of_getElem? (i := 3) rfl)
  obtain ⟨hR, hW, hs0, hs1⟩ := id hF
  have hn60 := hW.n60
  have hb10 := hW.b10
  have hs8 := hW.s8
  have hhn := hW.hn
  have hcl := cntF_le (loudB s) (nB s)
  refine lv_aload_n hx hb dX7_adopt_0 rfl (lv_at hl 0 rfl) ?_
  refine va_get (D := dg) (ci := 7) (v := .ref xl) (C := RX7) (T := TX7) (N := 7) hx hb hts in7 hown hK hP 0 rfl rfl 0 (by decide) f12 (fun _ h9 => h9) rfl dX7_adopt_1 ?_
  refine lv_iload_n hx hb dX7_adopt_4 rfl (lv_at hl 1 rfl) ?_
  refine call_x (va_runV (As := [.int x]) (rest := []) ⟨hx, hb, hml, hown, hts⟩ (kX1_hasBranch ln dg tq (h0 := xl) (h1 := xlc) (c := c) (s := s) (hR := (by omega)) (hW := (by omega)) (x := x) H.size) (cwV 1 hts gX7_adopt_X1_hasBranch rfl rfl rfl hdX1_hasBranch ⟨Nat.le_of_ble_eq_true rfl, Nat.le_of_ble_eq_true rfl⟩) (preVR hK hN hP [1, 2] rfl 1 rfl rfl [.int x]) rfl rfl hl.1 rfl (lv_room (Nat.le_of_ble_eq_true rfl)) dX7_adopt_5 ⟨Nat.le_refl _, Nat.le_refl _⟩) hP hS hA (fun H locs hP hS => ?_)
  refine r_if_eq_b (tgt := 20) hx hb dX7_adopt_8 (by decide) (fun c8 => ?_) (fun c8 => ?_)
  · skip
    refine lv_ldc hx hb hown k65 dX7_adopt_20 ?_
    exact hret (-100001) (c, hc, st, nx, uf, wl, wf) H locs _ ls (show (-100001) = (adR s x how) ∧ (ACT s c hc st nx (adO s x how) (adS s x) c hc st nx) from (have e0 : adP s x how = false := (by unfold adP; rw [c8, Bool.false_and]); ⟨by unfold adR; rw [e0]; rfl, ACT.no (by unfold adO; rw [e0]; rfl)⟩)) rfl (hP.sub [0, 1, 2, 3, 4, 5, 6, 7, 8] rfl) (hD.sub [0, 1, 2, 3, 4, 5, 6, 7, 8] (by decide) rfl) hS dX7_adopt_22
  · skip
    refine lv_iload_n hx hb dX7_adopt_11 rfl (lv_at hl 2 rfl) ?_
    refine lv_iconst (v := (nI 0)) hx hb dX7_adopt_12 (by decide) ?_
    refine lv_iconst (v := (nI 1)) hx hb dX7_adopt_13 (by decide) ?_
    refine call_x (va_runS (As := [.int how, .int (nI 0), .int (nI 1)]) (rest := []) ⟨hx, hb, hml, hown, hts⟩ (kX7_isWithin ln dg tq (v := how) (lo := (nI 0)) (hi := (nI 1)) H.size) (va_cwS 3 hts gX7_adopt_X7_isWithin rfl rfl rfl hdX7_isWithin.2 ⟨Nat.le_of_ble_eq_true rfl, Nat.le_of_ble_eq_true rfl⟩) (preS0 hK hN [.int how, .int (nI 0), .int (nI 1)]) rfl rfl hl.1 rfl (lv_room (Nat.le_of_ble_eq_true rfl)) dX7_adopt_14 ⟨Nat.le_refl _, Nat.le_refl _⟩) hP hS hA (fun H locs hP hS => ?_)
    refine r_if_ne_b (tgt := 23) hx hb dX7_adopt_17 (by decide) (fun c17 => ?_) (fun c17 => ?_)
    · skip
      obtain ⟨bk_, hbk, rfl⟩ := hasN_t c8
      have hlf := hW.lfl hbk
      have hmn := hW.mn60 hbk
      refine lv_aload_n hx hb dX7_adopt_23 rfl (lv_at hl 0 rfl) ?_
      refine va_get (D := dg) (ci := 7) (v := .ref xl) (C := RX7) (T := TX7) (N := 7) hx hb hts in7 hown hK hP 0 rfl rfl 0 (by decide) f12 (fun _ h9 => h9) rfl dX7_adopt_24 ?_
      refine lv_iload_n hx hb dX7_adopt_27 rfl (lv_at hl 1 rfl) ?_
      refine call_x (va_runV (As := [.int (nI bk_)]) (rest := []) ⟨hx, hb, hml, hown, hts⟩ (kX1_isWaiting ln dg tq (h0 := xl) (h1 := xlc) (c := c) (s := s) (hR := (by omega)) (hW := (by omega)) (b := bk_) (hb0 := (by omega)) H.size) (cwV 1 hts gX7_adopt_X1_isWaiting rfl rfl rfl hdX1_isWaiting ⟨Nat.le_of_ble_eq_true rfl, Nat.le_of_ble_eq_true rfl⟩) (preVR hK hN hP [1, 2] rfl 1 rfl rfl [.int (nI bk_)]) rfl rfl hl.1 rfl (lv_room (Nat.le_of_ble_eq_true rfl)) dX7_adopt_28 ⟨Nat.le_refl _, Nat.le_refl _⟩) hP hS hA (fun H locs hP hS => ?_)
      refine r_if_ne_b (tgt := 37) hx hb dX7_adopt_31 (by decide) (fun c31 => ?_) (fun c31 => ?_)
      · skip
        refine lv_aload_n hx hb dX7_adopt_37 rfl (lv_at hl 0 rfl) ?_
        refine lv_iload_n hx hb dX7_adopt_38 rfl (lv_at hl 1 rfl) ?_
        refine call_v (wr := [(xh, .inr (0, [.ref xhc, .int (nI st), .int (nI nx)])), (xhc, .inl (tq.1, 7365, .inl hc))]) (va_runV (As := [.int (nI bk_)]) (rest := []) ⟨hx, hb, hml, hown, hts⟩ (kX7_layOut ln dg tq (x0 := x0) (xl := xl) (xh := xh) (xt := xt) (xp := xp) (xo := xo) (xu := xu) (xw := xw) (xlc := xlc) (c := c) (s := s) (hF := hF) (xus := xus) (uf := uf) (xwe := xwe) (wl := wl) (wf := wf) (b := bk_) (hb0 := (by omega)) H.size) (cwV 1 hts gX7_adopt_X7_layOut rfl rfl rfl hdX7_layOut ⟨Nat.le_of_ble_eq_true rfl, Nat.le_of_ble_eq_true rfl⟩) (preVB hK hN hP hD [0, 1, 2, 5, 6, 7, 8] rfl rfl rfl 0 rfl rfl [.int (nI bk_)]) rfl rfl hl.1 rfl (lv_room (Nat.le_of_ble_eq_true rfl)) dX7_adopt_39 ⟨Nat.le_refl _, Nat.le_refl _⟩) hP hD hS hA [0, 1, 2, 5, 6, 7, 8] [3, 4] rfl rfl (by decide) (by decide) (fun u39 H locs hw39 hP hD hS => ?_)
        obtain ⟨uf239, wf239⟩ := u39
        have hP : va_P dg vwCl [(xh, .inr (0, [.ref xhc, .int (nI st), .int (nI nx)])), (xhc, .inl (tq.1, 7365, .inl hc)), (x0, .inr (7, [.ref xl, .ref xh, .ref xt, .ref xp, .ref xo, .ref xu, .ref xw])), (xl, .inr (1, [.ref xlc])), (xlc, .inl (tq.1, 1473, .inl c)), (xu, .inr (5, [.ref xus])), (xus, .inl (tq.1, 6, .inl uf239)), (xw, .inr (3, [.ref xwe, .int (nI (mn s bk_))])), (xwe, .inl (tq.1, 60, .inl wf239))] H := hP
        have hD : va_D AA [(xh, .inr (0, [.ref xhc, .int (nI st), .int (nI nx)])), (xhc, .inl (tq.1, 7365, .inl hc)), (x0, .inr (7, [.ref xl, .ref xh, .ref xt, .ref xp, .ref xo, .ref xu, .ref xw])), (xl, .inr (1, [.ref xlc])), (xlc, .inl (tq.1, 1473, .inl c)), (xu, .inr (5, [.ref xus])), (xus, .inl (tq.1, 6, .inl uf239)), (xw, .inr (3, [.ref xwe, .int (nI (mn s bk_))])), (xwe, .inl (tq.1, 60, .inl wf239))] := hD
        refine lv_aload_n hx hb dX7_adopt_42 rfl (lv_at hl 0 rfl) ?_
        refine va_get (D := dg) (ci := 7) (v := .ref xu) (C := RX7) (T := TX7) (N := 7) hx hb hts in7 hown hK hP 2 rfl rfl 5 (by decide) f47 (fun _ h9 => h9) rfl dX7_adopt_43 ?_
        refine lv_aload_n hx hb dX7_adopt_46 rfl (lv_at hl 0 rfl) ?_
        refine va_get (D := dg) (ci := 7) (v := .ref xl) (C := RX7) (T := TX7) (N := 7) hx hb hts in7 hown hK hP 2 rfl rfl 0 (by decide) f12 (fun _ h9 => h9) rfl dX7_adopt_47 ?_
        refine lv_aload_n hx hb dX7_adopt_50 rfl (lv_at hl 0 rfl) ?_
        refine va_get (D := dg) (ci := 7) (v := .ref xw) (C := RX7) (T := TX7) (N := 7) hx hb hts in7 hown hK hP 2 rfl rfl 6 (by decide) f54 (fun _ h9 => h9) rfl dX7_adopt_51 ?_
        refine call_w (wr := [(xh, .inr (0, [.ref xhc, .int (nI st), .int (nI nx)])), (xhc, .inl (tq.1, 7365, .inl hc)), (x0, .inr (7, [.ref xl, .ref xh, .ref xt, .ref xp, .ref xo, .ref xu, .ref xw]))]) (va_runV (As := [.ref xl, .ref xw]) (rest := []) ⟨hx, hb, hml, hown, hts⟩ (kX5_addAfforded ln dg tq (u0 := xu) (u1 := xus) (f := uf239) (h0 := xl) (h1 := xlc) (c := c) (s := s) (hR := (by omega)) (hW := (by omega)) (v := bal s (hE s)) (hV := hw39.1) (N := 58941) (hB := (bal_bd hW hW.hn)) (hn9 := (by omega)) (len := mn s bk_) (w0 := xw) (w1 := xwe) (pc := wf239) (E := brE s bk_) (hE := (fun k hk => ⟨hw39.2 k hk, brE_in hW hbk hk⟩)) (hlen := (by omega)) H.size) (cwV 2 hts gX7_adopt_X5_addAfforded rfl rfl rfl hdX5_addAfforded ⟨Nat.le_of_ble_eq_true rfl, Nat.le_of_ble_eq_true rfl⟩) (preVB hK hN hP hD [5, 6, 3, 4, 7, 8] rfl rfl rfl 5 rfl rfl [.ref xl, .ref xw]) rfl rfl hl.1 rfl (lv_room (Nat.le_of_ble_eq_true rfl)) dX7_adopt_54 ⟨Nat.le_refl _, Nat.le_refl _⟩) hP hD hS hA [5, 6, 3, 4, 7, 8] [0, 1, 2] rfl rfl (by decide) (by decide) (fun r54 u54 H locs hw54 hP hD hS => ?_)
        obtain ⟨g54, rfl⟩ : ∃ z, z = u54 := ⟨_, rfl⟩
        have hP : va_P dg vwCl [(xh, .inr (0, [.ref xhc, .int (nI st), .int (nI nx)])), (xhc, .inl (tq.1, 7365, .inl hc)), (x0, .inr (7, [.ref xl, .ref xh, .ref xt, .ref xp, .ref xo, .ref xu, .ref xw])), (xu, .inr (5, [.ref xus])), (xus, .inl (tq.1, 6, .inl g54)), (xl, .inr (1, [.ref xlc])), (xlc, .inl (tq.1, 1473, .inl c)), (xw, .inr (3, [.ref xwe, .int (nI (mn s bk_))])), (xwe, .inl (tq.1, 60, .inl wf239))] H := hP
        have hD : va_D AA [(xh, .inr (0, [.ref xhc, .int (nI st), .int (nI nx)])), (xhc, .inl (tq.1, 7365, .inl hc)), (x0, .inr (7, [.ref xl, .ref xh, .ref xt, .ref xp, .ref xo, .ref xu, .ref xw])), (xu, .inr (5, [.ref xus])), (xus, .inl (tq.1, 6, .inl g54)), (xl, .inr (1, [.ref xlc])), (xlc, .inl (tq.1, 1473, .inl c)), (xw, .inr (3, [.ref xwe, .int (nI (mn s bk_))])), (xwe, .inl (tq.1, 60, .inl wf239))] := hD
        obtain ⟨hr54, hw54⟩ := hw54
        subst hr54
        have htn := trN_le s (bal s (hE s)) (brE s bk_) (mn s bk_)
        refine lv_istore_n (lv' := [(3, .int (nI (trN s (bal s (hE s)) (brE s bk_) (mn s bk_)))), (0, .ref x0), (1, .int (nI bk_)), (2, .int how)]) hx hb dX7_adopt_57 rfl hl (by decide) rfl (fun ls hl => ?_)
        refine lv_iload_n hx hb dX7_adopt_58 rfl (lv_at hl 3 rfl) ?_
        refine r_if_ne (tgt := 76) hx hb rfl dX7_adopt_59 (by decide) (fun c59 => ?_) (fun c59 => ?_)
        · skip
          refine lv_iload_n hx hb dX7_adopt_76 rfl (lv_at hl 0 rfl) ?_
          refine lv_aload_n hx hb dX7_adopt_77 rfl (lv_at hl 1 rfl) ?_
          refine va_get (D := dg) (ci := 7) (v := .ref xl) (C := RX7) (T := TX7) (N := 7) hx hb hts in7 hown hK hP 2 rfl rfl 0 (by decide) f12 (fun _ h9 => h9) rfl dX7_adopt_78 ?_
          refine call_x (va_runV (As := []) (rest := [.int (nI (trN s (bal s (hE s)) (brE s bk_) (mn s bk_)))]) ⟨hx, hb, hml, hown, hts⟩ (kX1_room ln dg tq (h0 := xl) (h1 := xlc) (c := c) (s := s) (hR := (by omega)) (hW := (by omega)) H.size) (cwV 0 hts gX7_adopt_X1_room rfl rfl rfl hdX1_room ⟨Nat.le_of_ble_eq_true rfl, Nat.le_of_ble_eq_true rfl⟩) (preVR hK hN hP [5, 6] rfl 5 rfl rfl []) rfl rfl hl.1 rfl (lv_room (Nat.le_of_ble_eq_true rfl)) dX7_adopt_81 ⟨Nat.le_refl _, Nat.le_refl _⟩) hP hS hA (fun H locs hP hS => ?_)
          refine r_icmp_le (tgt := 90) hx hb (nI_tI (by omega)) (nI_tI (by omega)) dX7_adopt_84 (by decide) (fun c84 => ?_) (fun c84 => ?_)
          · skip
            refine lv_aload_n hx hb dX7_adopt_90 rfl (lv_at hl 1 rfl) ?_
            refine va_get (D := dg) (ci := 7) (v := .ref xh) (C := RX7) (T := TX7) (N := 7) hx hb hts in7 hown hK hP 2 rfl rfl 1 (by decide) f19 (fun _ h9 => h9) rfl dX7_adopt_91 ?_
            refine lv_aload_n hx hb dX7_adopt_94 rfl (lv_at hl 1 rfl) ?_
            refine va_get (D := dg) (ci := 7) (v := .ref xl) (C := RX7) (T := TX7) (N := 7) hx hb hts in7 hown hK hP 2 rfl rfl 0 (by decide) f12 (fun _ h9 => h9) rfl dX7_adopt_95 ?_
            refine call_v (wr := [(x0, .inr (7, [.ref xl, .ref xh, .ref xt, .ref xp, .ref xo, .ref xu, .ref xw])), (xu, .inr (5, [.ref xus])), (xus, .inl (tq.1, 6, .inl g54)), (xw, .inr (3, [.ref xwe, .int (nI (mn s bk_))])), (xwe, .inl (tq.1, 60, .inl wf239))]) (va_runV (As := [.ref xl]) (rest := []) ⟨hx, hb, hml, hown, hts⟩ (kX0_remember ln dg tq (b0 := xh) (b1 := xhc) (st := st) (nx := nx) (hc := hc) (h0 := xl) (h1 := xlc) (c := c) (hst := (by omega)) (hnx := (by omega)) H.size) (cwV 1 hts gX7_adopt_X0_remember rfl rfl rfl hdX0_remember ⟨Nat.le_of_ble_eq_true rfl, Nat.le_of_ble_eq_true rfl⟩) (preVB hK hN hP hD [0, 1, 5, 6] rfl rfl rfl 0 rfl rfl [.ref xl]) rfl rfl hl.1 rfl (lv_room (Nat.le_of_ble_eq_true rfl)) dX7_adopt_98 ⟨Nat.le_refl _, Nat.le_refl _⟩) hP hD hS hA [0, 1, 5, 6] [2, 3, 4, 7, 8] rfl rfl (by decide) (by decide) (fun u98 H locs hw98 hP hD hS => ?_)
            have hP : va_P dg vwCl [(x0, .inr (7, [.ref xl, .ref xh, .ref xt, .ref xp, .ref xo, .ref xu, .ref xw])), (xu, .inr (5, [.ref xus])), (xus, .inl (tq.1, 6, .inl g54)), (xw, .inr (3, [.ref xwe, .int (nI (mn s bk_))])), (xwe, .inl (tq.1, 60, .inl wf239)), (xh, .inr (0, [.ref xhc, .int (nI (recN st)), .int (nI ((nx + 1) % 5))])), (xhc, .inl (tq.1, 7365, .inl (va_cpy c hc 0 (nx * 1473) 1473))), (xl, .inr (1, [.ref xlc])), (xlc, .inl (tq.1, 1473, .inl c))] H := hP
            have hD : va_D AA [(x0, .inr (7, [.ref xl, .ref xh, .ref xt, .ref xp, .ref xo, .ref xu, .ref xw])), (xu, .inr (5, [.ref xus])), (xus, .inl (tq.1, 6, .inl g54)), (xw, .inr (3, [.ref xwe, .int (nI (mn s bk_))])), (xwe, .inl (tq.1, 60, .inl wf239)), (xh, .inr (0, [.ref xhc, .int (nI (recN st)), .int (nI ((nx + 1) % 5))])), (xhc, .inl (tq.1, 7365, .inl (va_cpy c hc 0 (nx * 1473) 1473))), (xl, .inr (1, [.ref xlc])), (xlc, .inl (tq.1, 1473, .inl c))] := hD
            refine lv_aload_n hx hb dX7_adopt_101 rfl (lv_at hl 1 rfl) ?_
            refine call_v (wr := [(xh, .inr (0, [.ref xhc, .int (nI (recN st)), .int (nI ((nx + 1) % 5))])), (xhc, .inl (tq.1, 7365, .inl (va_cpy c hc 0 (nx * 1473) 1473)))]) (va_runV (As := []) (rest := []) ⟨hx, hb, hml, hown, hts⟩ (kX7_writeAnew ln dg tq (x0 := x0) (xl := xl) (xh := xh) (xt := xt) (xp := xp) (xo := xo) (xu := xu) (xw := xw) (xlc := xlc) (c := c) (s := s) (hF := hF) (xus := xus) (uf := g54) (xwe := xwe) (len := mn s bk_) (wf := wf239) (b := bk_) (hb0 := hbk) (hlen := rfl) (hG := hw39.2) (hr := (by unfold adN; omega)) H.size) (cwV 0 hts gX7_adopt_X7_writeAnew rfl rfl rfl hdX7_writeAnew ⟨Nat.le_of_ble_eq_true rfl, Nat.le_of_ble_eq_true rfl⟩) (preVB hK hN hP hD [0, 7, 8, 1, 2, 3, 4] rfl rfl rfl 0 rfl rfl []) rfl rfl hl.1 rfl (lv_room (Nat.le_of_ble_eq_true rfl)) dX7_adopt_102 ⟨Nat.le_refl _, Nat.le_refl _⟩) hP hD hS hA [0, 7, 8, 1, 2, 3, 4] [5, 6] rfl rfl (by decide) (by decide) (fun u102 H locs hw102 hP hD hS => ?_)
            obtain ⟨c2102, uf2102⟩ := u102
            have hP : va_P dg vwCl [(xh, .inr (0, [.ref xhc, .int (nI (recN st)), .int (nI ((nx + 1) % 5))])), (xhc, .inl (tq.1, 7365, .inl (va_cpy c hc 0 (nx * 1473) 1473))), (x0, .inr (7, [.ref xl, .ref xh, .ref xt, .ref xp, .ref xo, .ref xu, .ref xw])), (xl, .inr (1, [.ref xlc])), (xlc, .inl (tq.1, 1473, .inl c2102)), (xu, .inr (5, [.ref xus])), (xus, .inl (tq.1, 6, .inl uf2102)), (xw, .inr (3, [.ref xwe, .int (nI (mn s bk_))])), (xwe, .inl (tq.1, 60, .inl wf239))] H := hP
            have hD : va_D AA [(xh, .inr (0, [.ref xhc, .int (nI (recN st)), .int (nI ((nx + 1) % 5))])), (xhc, .inl (tq.1, 7365, .inl (va_cpy c hc 0 (nx * 1473) 1473))), (x0, .inr (7, [.ref xl, .ref xh, .ref xt, .ref xp, .ref xo, .ref xu, .ref xw])), (xl, .inr (1, [.ref xlc])), (xlc, .inl (tq.1, 1473, .inl c2102)), (xu, .inr (5, [.ref xus])), (xus, .inl (tq.1, 6, .inl uf2102)), (xw, .inr (3, [.ref xwe, .int (nI (mn s bk_))])), (xwe, .inl (tq.1, 60, .inl wf239))] := hD
            refine lv_aload_n hx hb dX7_adopt_105 rfl (lv_at hl 1 rfl) ?_
            refine va_get (D := dg) (ci := 7) (v := .ref xl) (C := RX7) (T := TX7) (N := 7) hx hb hts in7 hown hK hP 2 rfl rfl 0 (by decide) f12 (fun _ h9 => h9) rfl dX7_adopt_106 ?_
            refine lv_iload_n hx hb dX7_adopt_109 rfl (lv_at hl 2 rfl) ?_
            refine lv_iconst (v := (nI 4)) hx hb dX7_adopt_110 (by decide) ?_
            refine lv_iconst (v := (nI 2)) hx hb dX7_adopt_111 (by decide) ?_
            refine call_v (wr := [(xh, .inr (0, [.ref xhc, .int (nI (recN st)), .int (nI ((nx + 1) % 5))])), (xhc, .inl (tq.1, 7365, .inl (va_cpy c hc 0 (nx * 1473) 1473))), (x0, .inr (7, [.ref xl, .ref xh, .ref xt, .ref xp, .ref xo, .ref xu, .ref xw])), (xu, .inr (5, [.ref xus])), (xus, .inl (tq.1, 6, .inl uf2102)), (xw, .inr (3, [.ref xwe, .int (nI (mn s bk_))])), (xwe, .inl (tq.1, 60, .inl wf239))]) (va_runV (As := [.int (nI bk_), .int (nI 4), .int (nI 2)]) (rest := []) ⟨hx, hb, hml, hown, hts⟩ (kX1_setOfBranch ln dg tq (h0 := xl) (h1 := xlc) (c := c2102) (e := bk_) (f := 4) (v := (nI 2)) (he := (by omega)) (hf := (by omega)) H.size) (cwV 3 hts gX7_adopt_X1_setOfBranch rfl rfl rfl hdX1_setOfBranch ⟨Nat.le_of_ble_eq_true rfl, Nat.le_of_ble_eq_true rfl⟩) (preVB hK hN hP hD [3, 4] rfl rfl rfl 3 rfl rfl [.int (nI bk_), .int (nI 4), .int (nI 2)]) rfl rfl hl.1 rfl (lv_room (Nat.le_of_ble_eq_true rfl)) dX7_adopt_112 ⟨Nat.le_refl _, Nat.le_refl _⟩) hP hD hS hA [3, 4] [0, 1, 2, 5, 6, 7, 8] rfl rfl (by decide) (by decide) (fun u112 H locs hw112 hP hD hS => ?_)
            have hP : va_P dg vwCl [(xh, .inr (0, [.ref xhc, .int (nI (recN st)), .int (nI ((nx + 1) % 5))])), (xhc, .inl (tq.1, 7365, .inl (va_cpy c hc 0 (nx * 1473) 1473))), (x0, .inr (7, [.ref xl, .ref xh, .ref xt, .ref xp, .ref xo, .ref xu, .ref xw])), (xu, .inr (5, [.ref xus])), (xus, .inl (tq.1, 6, .inl uf2102)), (xw, .inr (3, [.ref xwe, .int (nI (mn s bk_))])), (xwe, .inl (tq.1, 60, .inl wf239)), (xl, .inr (1, [.ref xlc])), (xlc, .inl (tq.1, 1473, .inl (upd c2102 (425 + bk_ * 5 + 4) (nI 2))))] H := hP
            have hD : va_D AA [(xh, .inr (0, [.ref xhc, .int (nI (recN st)), .int (nI ((nx + 1) % 5))])), (xhc, .inl (tq.1, 7365, .inl (va_cpy c hc 0 (nx * 1473) 1473))), (x0, .inr (7, [.ref xl, .ref xh, .ref xt, .ref xp, .ref xo, .ref xu, .ref xw])), (xu, .inr (5, [.ref xus])), (xus, .inl (tq.1, 6, .inl uf2102)), (xw, .inr (3, [.ref xwe, .int (nI (mn s bk_))])), (xwe, .inl (tq.1, 60, .inl wf239)), (xl, .inr (1, [.ref xlc])), (xlc, .inl (tq.1, 1473, .inl (upd c2102 (425 + bk_ * 5 + 4) (nI 2))))] := hD
            refine lv_iload_n hx hb dX7_adopt_115 rfl (lv_at hl 0 rfl) ?_
            exact hret (nI (trN s (bal s (hE s)) (brE s bk_) (mn s bk_))) ((upd c2102 (425 + bk_ * 5 + 4) (nI 2)), (va_cpy c hc 0 (nx * 1473) 1473), (recN st), ((nx + 1) % 5), uf2102, (nI (mn s bk_)), wf239) H locs _ ls (show (nI (trN s (bal s (hE s)) (brE s bk_) (mn s bk_))) = (adR s (nI bk_) how) ∧ (ACT s c hc st nx (adO s (nI bk_) how) (adS s (nI bk_)) (upd c2102 (425 + bk_ * 5 + 4) (nI 2)) (va_cpy c hc 0 (nx * 1473) 1473) (recN st) ((nx + 1) % 5)) from (have e0 : adP s (nI bk_) how = true := (by unfold adP; rw [c8, c17]; rfl); have e1 : adX s bk_ how = true := (by unfold adX; rw [c31, decide_eq_false (show ¬ how = nI 0 from fun z => c59 (by rw [z]; rfl))]; rfl); ⟨by unfold adR; rw [e0, if_pos rfl, cl_n (show bk_ < 2147483648 by omega), e1, if_pos rfl, if_neg (by unfold adN; omega)]; rfl, ACT.yes (by unfold adO; rw [e0, cl_n (show bk_ < 2147483648 by omega), e1, decide_eq_false (show ¬ 60 < nE s + adN s bk_ by unfold adN; omega)]; rfl) (FS_ad hF hbk hw102)⟩)) rfl (hP.sub [2, 7, 8, 0, 1, 3, 4, 5, 6] rfl) (hD.sub [2, 7, 8, 0, 1, 3, 4, 5, 6] (by decide) rfl) hS dX7_adopt_116
          · skip
            refine lv_ldc hx hb hown k96 dX7_adopt_87 ?_
            exact hret (-100003) (c, hc, st, nx, g54, (nI (mn s bk_)), wf239) H locs _ ls (show (-100003) = (adR s (nI bk_) how) ∧ (ACT s c hc st nx (adO s (nI bk_) how) (adS s (nI bk_)) c hc st nx) from (have e0 : adP s (nI bk_) how = true := (by unfold adP; rw [c8, c17]; rfl); have e1 : adX s bk_ how = true := (by unfold adX; rw [c31, decide_eq_false (show ¬ how = nI 0 from fun z => c59 (by rw [z]; rfl))]; rfl); ⟨by unfold adR; rw [e0, if_pos rfl, cl_n (show bk_ < 2147483648 by omega), e1, if_pos rfl, if_pos (by unfold adN; omega)], ACT.no (by unfold adO; rw [e0, cl_n (show bk_ < 2147483648 by omega), e1, decide_eq_true (show 60 < nE s + adN s bk_ by unfold adN; omega)]; rfl)⟩)) rfl (hP.sub [2, 5, 6, 0, 1, 3, 4, 7, 8] rfl) (hD.sub [2, 5, 6, 0, 1, 3, 4, 7, 8] (by decide) rfl) hS dX7_adopt_89
        · skip
          refine lv_iload_n hx hb dX7_adopt_62 rfl (lv_at hl 0 rfl) ?_
          refine lv_aload_n hx hb dX7_adopt_63 rfl (lv_at hl 1 rfl) ?_
          refine va_get (D := dg) (ci := 7) (v := .ref xw) (C := RX7) (T := TX7) (N := 7) hx hb hts in7 hown hK hP 2 rfl rfl 6 (by decide) f54 (fun _ h9 => h9) rfl dX7_adopt_64 ?_
          refine call_x (va_runV (As := []) (rest := [.int (nI (trN s (bal s (hE s)) (brE s bk_) (mn s bk_)))]) ⟨hx, hb, hml, hown, hts⟩ (kX3_length ln dg tq (w0 := xw) (w1 := xwe) (len := mn s bk_) (pc := wf239) H.size) (cwV 0 hts gX7_adopt_X3_length rfl rfl rfl hdX3_length ⟨Nat.le_of_ble_eq_true rfl, Nat.le_of_ble_eq_true rfl⟩) (preVR hK hN hP [7, 8] rfl 7 rfl rfl []) rfl rfl hl.1 rfl (lv_room (Nat.le_of_ble_eq_true rfl)) dX7_adopt_67 ⟨Nat.le_refl _, Nat.le_refl _⟩) hP hS hA (fun H locs hP hS => ?_)
          refine r_icmp_ge (tgt := 76) hx hb (nI_tI (by omega)) (nI_tI (by omega)) dX7_adopt_70 (by decide) (fun c70 => ?_) (fun c70 => ?_)
          · skip
            refine lv_iload_n hx hb dX7_adopt_76 rfl (lv_at hl 0 rfl) ?_
            refine lv_aload_n hx hb dX7_adopt_77 rfl (lv_at hl 1 rfl) ?_
            refine va_get (D := dg) (ci := 7) (v := .ref xl) (C := RX7) (T := TX7) (N := 7) hx hb hts in7 hown hK hP 2 rfl rfl 0 (by decide) f12 (fun _ h9 => h9) rfl dX7_adopt_78 ?_
            refine call_x (va_runV (As := []) (rest := [.int (nI (trN s (bal s (hE s)) (brE s bk_) (mn s bk_)))]) ⟨hx, hb, hml, hown, hts⟩ (kX1_room ln dg tq (h0 := xl) (h1 := xlc) (c := c) (s := s) (hR := (by omega)) (hW := (by omega)) H.size) (cwV 0 hts gX7_adopt_X1_room rfl rfl rfl hdX1_room ⟨Nat.le_of_ble_eq_true rfl, Nat.le_of_ble_eq_true rfl⟩) (preVR hK hN hP [5, 6] rfl 5 rfl rfl []) rfl rfl hl.1 rfl (lv_room (Nat.le_of_ble_eq_true rfl)) dX7_adopt_81 ⟨Nat.le_refl _, Nat.le_refl _⟩) hP hS hA (fun H locs hP hS => ?_)
            refine r_icmp_le (tgt := 90) hx hb (nI_tI (by omega)) (nI_tI (by omega)) dX7_adopt_84 (by decide) (fun c84 => ?_) (fun c84 => ?_)
            · skip
              refine lv_aload_n hx hb dX7_adopt_90 rfl (lv_at hl 1 rfl) ?_
              refine va_get (D := dg) (ci := 7) (v := .ref xh) (C := RX7) (T := TX7) (N := 7) hx hb hts in7 hown hK hP 2 rfl rfl 1 (by decide) f19 (fun _ h9 => h9) rfl dX7_adopt_91 ?_
              refine lv_aload_n hx hb dX7_adopt_94 rfl (lv_at hl 1 rfl) ?_
              refine va_get (D := dg) (ci := 7) (v := .ref xl) (C := RX7) (T := TX7) (N := 7) hx hb hts in7 hown hK hP 2 rfl rfl 0 (by decide) f12 (fun _ h9 => h9) rfl dX7_adopt_95 ?_
              refine call_v (wr := [(x0, .inr (7, [.ref xl, .ref xh, .ref xt, .ref xp, .ref xo, .ref xu, .ref xw])), (xu, .inr (5, [.ref xus])), (xus, .inl (tq.1, 6, .inl g54)), (xw, .inr (3, [.ref xwe, .int (nI (mn s bk_))])), (xwe, .inl (tq.1, 60, .inl wf239))]) (va_runV (As := [.ref xl]) (rest := []) ⟨hx, hb, hml, hown, hts⟩ (kX0_remember ln dg tq (b0 := xh) (b1 := xhc) (st := st) (nx := nx) (hc := hc) (h0 := xl) (h1 := xlc) (c := c) (hst := (by omega)) (hnx := (by omega)) H.size) (cwV 1 hts gX7_adopt_X0_remember rfl rfl rfl hdX0_remember ⟨Nat.le_of_ble_eq_true rfl, Nat.le_of_ble_eq_true rfl⟩) (preVB hK hN hP hD [0, 1, 5, 6] rfl rfl rfl 0 rfl rfl [.ref xl]) rfl rfl hl.1 rfl (lv_room (Nat.le_of_ble_eq_true rfl)) dX7_adopt_98 ⟨Nat.le_refl _, Nat.le_refl _⟩) hP hD hS hA [0, 1, 5, 6] [2, 3, 4, 7, 8] rfl rfl (by decide) (by decide) (fun u98 H locs hw98 hP hD hS => ?_)
              have hP : va_P dg vwCl [(x0, .inr (7, [.ref xl, .ref xh, .ref xt, .ref xp, .ref xo, .ref xu, .ref xw])), (xu, .inr (5, [.ref xus])), (xus, .inl (tq.1, 6, .inl g54)), (xw, .inr (3, [.ref xwe, .int (nI (mn s bk_))])), (xwe, .inl (tq.1, 60, .inl wf239)), (xh, .inr (0, [.ref xhc, .int (nI (recN st)), .int (nI ((nx + 1) % 5))])), (xhc, .inl (tq.1, 7365, .inl (va_cpy c hc 0 (nx * 1473) 1473))), (xl, .inr (1, [.ref xlc])), (xlc, .inl (tq.1, 1473, .inl c))] H := hP
              have hD : va_D AA [(x0, .inr (7, [.ref xl, .ref xh, .ref xt, .ref xp, .ref xo, .ref xu, .ref xw])), (xu, .inr (5, [.ref xus])), (xus, .inl (tq.1, 6, .inl g54)), (xw, .inr (3, [.ref xwe, .int (nI (mn s bk_))])), (xwe, .inl (tq.1, 60, .inl wf239)), (xh, .inr (0, [.ref xhc, .int (nI (recN st)), .int (nI ((nx + 1) % 5))])), (xhc, .inl (tq.1, 7365, .inl (va_cpy c hc 0 (nx * 1473) 1473))), (xl, .inr (1, [.ref xlc])), (xlc, .inl (tq.1, 1473, .inl c))] := hD
              refine lv_aload_n hx hb dX7_adopt_101 rfl (lv_at hl 1 rfl) ?_
              refine call_v (wr := [(xh, .inr (0, [.ref xhc, .int (nI (recN st)), .int (nI ((nx + 1) % 5))])), (xhc, .inl (tq.1, 7365, .inl (va_cpy c hc 0 (nx * 1473) 1473)))]) (va_runV (As := []) (rest := []) ⟨hx, hb, hml, hown, hts⟩ (kX7_writeAnew ln dg tq (x0 := x0) (xl := xl) (xh := xh) (xt := xt) (xp := xp) (xo := xo) (xu := xu) (xw := xw) (xlc := xlc) (c := c) (s := s) (hF := hF) (xus := xus) (uf := g54) (xwe := xwe) (len := mn s bk_) (wf := wf239) (b := bk_) (hb0 := hbk) (hlen := rfl) (hG := hw39.2) (hr := (by unfold adN; omega)) H.size) (cwV 0 hts gX7_adopt_X7_writeAnew rfl rfl rfl hdX7_writeAnew ⟨Nat.le_of_ble_eq_true rfl, Nat.le_of_ble_eq_true rfl⟩) (preVB hK hN hP hD [0, 7, 8, 1, 2, 3, 4] rfl rfl rfl 0 rfl rfl []) rfl rfl hl.1 rfl (lv_room (Nat.le_of_ble_eq_true rfl)) dX7_adopt_102 ⟨Nat.le_refl _, Nat.le_refl _⟩) hP hD hS hA [0, 7, 8, 1, 2, 3, 4] [5, 6] rfl rfl (by decide) (by decide) (fun u102 H locs hw102 hP hD hS => ?_)
              obtain ⟨c2102, uf2102⟩ := u102
              have hP : va_P dg vwCl [(xh, .inr (0, [.ref xhc, .int (nI (recN st)), .int (nI ((nx + 1) % 5))])), (xhc, .inl (tq.1, 7365, .inl (va_cpy c hc 0 (nx * 1473) 1473))), (x0, .inr (7, [.ref xl, .ref xh, .ref xt, .ref xp, .ref xo, .ref xu, .ref xw])), (xl, .inr (1, [.ref xlc])), (xlc, .inl (tq.1, 1473, .inl c2102)), (xu, .inr (5, [.ref xus])), (xus, .inl (tq.1, 6, .inl uf2102)), (xw, .inr (3, [.ref xwe, .int (nI (mn s bk_))])), (xwe, .inl (tq.1, 60, .inl wf239))] H := hP
              have hD : va_D AA [(xh, .inr (0, [.ref xhc, .int (nI (recN st)), .int (nI ((nx + 1) % 5))])), (xhc, .inl (tq.1, 7365, .inl (va_cpy c hc 0 (nx * 1473) 1473))), (x0, .inr (7, [.ref xl, .ref xh, .ref xt, .ref xp, .ref xo, .ref xu, .ref xw])), (xl, .inr (1, [.ref xlc])), (xlc, .inl (tq.1, 1473, .inl c2102)), (xu, .inr (5, [.ref xus])), (xus, .inl (tq.1, 6, .inl uf2102)), (xw, .inr (3, [.ref xwe, .int (nI (mn s bk_))])), (xwe, .inl (tq.1, 60, .inl wf239))] := hD
              refine lv_aload_n hx hb dX7_adopt_105 rfl (lv_at hl 1 rfl) ?_
              refine va_get (D := dg) (ci := 7) (v := .ref xl) (C := RX7) (T := TX7) (N := 7) hx hb hts in7 hown hK hP 2 rfl rfl 0 (by decide) f12 (fun _ h9 => h9) rfl dX7_adopt_106 ?_
              refine lv_iload_n hx hb dX7_adopt_109 rfl (lv_at hl 2 rfl) ?_
              refine lv_iconst (v := (nI 4)) hx hb dX7_adopt_110 (by decide) ?_
              refine lv_iconst (v := (nI 2)) hx hb dX7_adopt_111 (by decide) ?_
              refine call_v (wr := [(xh, .inr (0, [.ref xhc, .int (nI (recN st)), .int (nI ((nx + 1) % 5))])), (xhc, .inl (tq.1, 7365, .inl (va_cpy c hc 0 (nx * 1473) 1473))), (x0, .inr (7, [.ref xl, .ref xh, .ref xt, .ref xp, .ref xo, .ref xu, .ref xw])), (xu, .inr (5, [.ref xus])), (xus, .inl (tq.1, 6, .inl uf2102)), (xw, .inr (3, [.ref xwe, .int (nI (mn s bk_))])), (xwe, .inl (tq.1, 60, .inl wf239))]) (va_runV (As := [.int (nI bk_), .int (nI 4), .int (nI 2)]) (rest := []) ⟨hx, hb, hml, hown, hts⟩ (kX1_setOfBranch ln dg tq (h0 := xl) (h1 := xlc) (c := c2102) (e := bk_) (f := 4) (v := (nI 2)) (he := (by omega)) (hf := (by omega)) H.size) (cwV 3 hts gX7_adopt_X1_setOfBranch rfl rfl rfl hdX1_setOfBranch ⟨Nat.le_of_ble_eq_true rfl, Nat.le_of_ble_eq_true rfl⟩) (preVB hK hN hP hD [3, 4] rfl rfl rfl 3 rfl rfl [.int (nI bk_), .int (nI 4), .int (nI 2)]) rfl rfl hl.1 rfl (lv_room (Nat.le_of_ble_eq_true rfl)) dX7_adopt_112 ⟨Nat.le_refl _, Nat.le_refl _⟩) hP hD hS hA [3, 4] [0, 1, 2, 5, 6, 7, 8] rfl rfl (by decide) (by decide) (fun u112 H locs hw112 hP hD hS => ?_)
              have hP : va_P dg vwCl [(xh, .inr (0, [.ref xhc, .int (nI (recN st)), .int (nI ((nx + 1) % 5))])), (xhc, .inl (tq.1, 7365, .inl (va_cpy c hc 0 (nx * 1473) 1473))), (x0, .inr (7, [.ref xl, .ref xh, .ref xt, .ref xp, .ref xo, .ref xu, .ref xw])), (xu, .inr (5, [.ref xus])), (xus, .inl (tq.1, 6, .inl uf2102)), (xw, .inr (3, [.ref xwe, .int (nI (mn s bk_))])), (xwe, .inl (tq.1, 60, .inl wf239)), (xl, .inr (1, [.ref xlc])), (xlc, .inl (tq.1, 1473, .inl (upd c2102 (425 + bk_ * 5 + 4) (nI 2))))] H := hP
              have hD : va_D AA [(xh, .inr (0, [.ref xhc, .int (nI (recN st)), .int (nI ((nx + 1) % 5))])), (xhc, .inl (tq.1, 7365, .inl (va_cpy c hc 0 (nx * 1473) 1473))), (x0, .inr (7, [.ref xl, .ref xh, .ref xt, .ref xp, .ref xo, .ref xu, .ref xw])), (xu, .inr (5, [.ref xus])), (xus, .inl (tq.1, 6, .inl uf2102)), (xw, .inr (3, [.ref xwe, .int (nI (mn s bk_))])), (xwe, .inl (tq.1, 60, .inl wf239)), (xl, .inr (1, [.ref xlc])), (xlc, .inl (tq.1, 1473, .inl (upd c2102 (425 + bk_ * 5 + 4) (nI 2))))] := hD
              refine lv_iload_n hx hb dX7_adopt_115 rfl (lv_at hl 0 rfl) ?_
              exact hret (nI (trN s (bal s (hE s)) (brE s bk_) (mn s bk_))) ((upd c2102 (425 + bk_ * 5 + 4) (nI 2)), (va_cpy c hc 0 (nx * 1473) 1473), (recN st), ((nx + 1) % 5), uf2102, (nI (mn s bk_)), wf239) H locs _ ls (show (nI (trN s (bal s (hE s)) (brE s bk_) (mn s bk_))) = (adR s (nI bk_) how) ∧ (ACT s c hc st nx (adO s (nI bk_) how) (adS s (nI bk_)) (upd c2102 (425 + bk_ * 5 + 4) (nI 2)) (va_cpy c hc 0 (nx * 1473) 1473) (recN st) ((nx + 1) % 5)) from (have e0 : adP s (nI bk_) how = true := (by unfold adP; rw [c8, c17]; rfl); have e1 : adX s bk_ how = true := (by unfold adX; rw [c31, decide_eq_false (show ¬ adN s bk_ < mn s bk_ by unfold adN; omega)]; simp); ⟨by unfold adR; rw [e0, if_pos rfl, cl_n (show bk_ < 2147483648 by omega), e1, if_pos rfl, if_neg (by unfold adN; omega)]; rfl, ACT.yes (by unfold adO; rw [e0, cl_n (show bk_ < 2147483648 by omega), e1, decide_eq_false (show ¬ 60 < nE s + adN s bk_ by unfold adN; omega)]; rfl) (FS_ad hF hbk hw102)⟩)) rfl (hP.sub [2, 7, 8, 0, 1, 3, 4, 5, 6] rfl) (hD.sub [2, 7, 8, 0, 1, 3, 4, 5, 6] (by decide) rfl) hS dX7_adopt_116
            · skip
              refine lv_ldc hx hb hown k96 dX7_adopt_87 ?_
              exact hret (-100003) (c, hc, st, nx, g54, (nI (mn s bk_)), wf239) H locs _ ls (show (-100003) = (adR s (nI bk_) how) ∧ (ACT s c hc st nx (adO s (nI bk_) how) (adS s (nI bk_)) c hc st nx) from (have e0 : adP s (nI bk_) how = true := (by unfold adP; rw [c8, c17]; rfl); have e1 : adX s bk_ how = true := (by unfold adX; rw [c31, decide_eq_false (show ¬ adN s bk_ < mn s bk_ by unfold adN; omega)]; simp); ⟨by unfold adR; rw [e0, if_pos rfl, cl_n (show bk_ < 2147483648 by omega), e1, if_pos rfl, if_pos (by unfold adN; omega)], ACT.no (by unfold adO; rw [e0, cl_n (show bk_ < 2147483648 by omega), e1, decide_eq_true (show 60 < nE s + adN s bk_ by unfold adN; omega)]; rfl)⟩)) rfl (hP.sub [2, 5, 6, 0, 1, 3, 4, 7, 8] rfl) (hD.sub [2, 5, 6, 0, 1, 3, 4, 7, 8] (by decide) rfl) hS dX7_adopt_89
          · skip
            refine lv_ldc hx hb hown k80 dX7_adopt_73 ?_
            exact hret (-100002) (c, hc, st, nx, g54, (nI (mn s bk_)), wf239) H locs _ ls (show (-100002) = (adR s (nI bk_) how) ∧ (ACT s c hc st nx (adO s (nI bk_) how) (adS s (nI bk_)) c hc st nx) from (have e0 : adP s (nI bk_) how = true := (by unfold adP; rw [c8, c17]; rfl); have e1 : adX s bk_ how = false := (by unfold adX; rw [c31, decide_eq_true (show how = nI 0 from i32_eq c59), decide_eq_true (show adN s bk_ < mn s bk_ by unfold adN; omega)]; rfl); ⟨by unfold adR; rw [e0, if_pos rfl, cl_n (show bk_ < 2147483648 by omega), e1]; rfl, ACT.no (by unfold adO; rw [e0, cl_n (show bk_ < 2147483648 by omega), e1]; rfl)⟩)) rfl (hP.sub [2, 5, 6, 0, 1, 3, 4, 7, 8] rfl) (hD.sub [2, 5, 6, 0, 1, 3, 4, 7, 8] (by decide) rfl) hS dX7_adopt_75
      · skip
        refine lv_ldc hx hb hown k80 dX7_adopt_34 ?_
        exact hret (-100002) (c, hc, st, nx, uf, wl, wf) H locs _ ls (show (-100002) = (adR s (nI bk_) how) ∧ (ACT s c hc st nx (adO s (nI bk_) how) (adS s (nI bk_)) c hc st nx) from (have e0 : adP s (nI bk_) how = true := (by unfold adP; rw [c8, c17]; rfl); have e1 : adX s bk_ how = false := (by unfold adX; rw [c31]; rfl); ⟨by unfold adR; rw [e0, if_pos rfl, cl_n (show bk_ < 2147483648 by omega), e1]; rfl, ACT.no (by unfold adO; rw [e0, cl_n (show bk_ < 2147483648 by omega), e1]; rfl)⟩)) rfl (hP.sub [0, 1, 2, 3, 4, 5, 6, 7, 8] rfl) (hD.sub [0, 1, 2, 3, 4, 5, 6, 7, 8] (by decide) rfl) hS dX7_adopt_36
    · skip
      refine lv_ldc hx hb hown k65 dX7_adopt_20 ?_
      exact hret (-100001) (c, hc, st, nx, uf, wl, wf) H locs _ ls (show (-100001) = (adR s x how) ∧ (ACT s c hc st nx (adO s x how) (adS s x) c hc st nx) from (have e0 : adP s x how = false := (by unfold adP; rw [c17, Bool.and_false]); ⟨by unfold adR; rw [e0]; rfl, ACT.no (by unfold adO; rw [e0]; rfl)⟩)) rfl (hP.sub [0, 1, 2, 3, 4, 5, 6, 7, 8] rfl) (hD.sub [0, 1, 2, 3, 4, 5, 6, 7, 8] (by decide) rfl) hS dX7_adopt_22
