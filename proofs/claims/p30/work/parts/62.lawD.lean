theorem hdL_holds : yL_holds.cls = RL ∧ yL_holds.cls ≠ "java/lang/invoke/MethodHandle" ∧ yL_holds.cls ≠ "java/lang/invoke/VarHandle" ∧ (parseMethodDescriptor yL_holds.desc).map (fun d => d.parameters.length) = some 1 := by decide +kernel
set_option maxHeartbeats 4000000 in
set_option maxRecDepth 100000 in
theorem kL_holds (ln : Launch) (dg : va_G) (tq : ClassId × ClassId) (x0 xl xh xt xp xo xu xw : Nat)(xlc : Nat) (c : Row) (s : Row)(xhc : Nat) (st nx : Nat) (hc : Row)(hL : LX s c st nx)(xtc : Nat) (tl : Nat) (tx : Row)(xus : Nat) (uf : Row)(xwe : Nat) (wl : Int32) (wf : Row) : MW ln yL_holds wsL_holds (rmm 7 165) dg tq [.ref x0] [(x0, .inr (7, [.ref xl, .ref xh, .ref xt, .ref xp, .ref xo, .ref xu, .ref xw])), (xl, .inr (1, [.ref xlc])), (xlc, .inl (tq.1, 1473, .inl c)), (xh, .inr (0, [.ref xhc, .int (nI st), .int (nI nx)])), (xhc, .inl (tq.1, 7365, .inl hc)), (xt, .inr (6, [.ref xtc, .int (nI tl)])), (xtc, .inl (tq.1, 100, .inl tx)), (xu, .inr (5, [.ref xus])), (xus, .inl (tq.1, 6, .inl uf)), (xw, .inr (3, [.ref xwe, .int wl])), (xwe, .inl (tq.1, 60, .inl wf))] (fun (r : Int32) (u : Row × Int32 × Row) => r = (nI 1)) (fun u => [(x0, .inr (7, [.ref xl, .ref xh, .ref xt, .ref xp, .ref xo, .ref xu, .ref xw])), (xl, .inr (1, [.ref xlc])), (xlc, .inl (tq.1, 1473, .inl c)), (xh, .inr (0, [.ref xhc, .int (nI st), .int (nI nx)])), (xhc, .inl (tq.1, 7365, .inl hc)), (xt, .inr (6, [.ref xtc, .int (nI tl)])), (xtc, .inl (tq.1, 100, .inl tx)), (xu, .inr (5, [.ref xus])), (xus, .inl (tq.1, 6, .inl u.1)), (xw, .inr (3, [.ref xwe, .int u.2.1])), (xwe, .inl (tq.1, 60, .inl u.2.2))]) := by
  refine MW.enter cL_holds 4 .boolean (by decide) rfl rfl (Nat.le_of_ble_eq_true rfl) ?_
  intro pP eE sS mM aA bB mT cC QQ AA hA hAT hret H locs hP hD hS ls hl
  obtain ⟨hx, hb, hml, hown, hts, hK, hN⟩ := hAT
  have hown : sS.vm.findClass RL = some mM.cls := hown
  have hl : lv_has ls 4 [(0, .ref x0)] := hl
  have k19 := hts (.constant RL 19 (-100009)) (List.mem_of_getElem? (i := 1) rfl)
  obtain ⟨hF, hX, hst, hnx⟩ := id hL
  obtain ⟨hR, hW, hs0, hs1⟩ := id hF
  have hn60 := hW.n60
  have hb10 := hW.b10
  have hs8 := hW.s8
  have hhn := hW.hn
  have hcl := cntF_le (loudB s) (nB s)
  have hn1 := hW.n1
  have hdl := dep_le hW _ hW.hn
  have hd1 := dep_ge1 s (hE s)
  refine lv_aload_n hx hb dL_holds_0 rfl (lv_at hl 0 rfl) ?_
  refine lv_iconst (v := (nI 2)) hx hb dL_holds_1 (by decide) ?_
  refine call_x (va_runV (As := [.int (nI 2)]) (rest := []) ⟨hx, hb, hml, hown, hts⟩ (kX7_count ln dg tq (x0 := x0) (xl := xl) (xh := xh) (xt := xt) (xp := xp) (xo := xo) (xu := xu) (xw := xw) (xlc := xlc) (c := c) (s := s) (hF := hF) (xhc := xhc) (st := st) (nx := nx) (hc := hc) (xtc := xtc) (tl := tl) (tx := tx) (x := (nI 2)) H.size) (cwV 1 hts gL_holds_X7_count rfl rfl rfl hdX7_count ⟨Nat.le_of_ble_eq_true rfl, Nat.le_of_ble_eq_true rfl⟩) (preVR hK hN hP [0, 1, 2, 3, 4, 5, 6] rfl 0 rfl rfl [.int (nI 2)]) rfl rfl hl.1 rfl (lv_room (Nat.le_of_ble_eq_true rfl)) dL_holds_2 ⟨Nat.le_refl _, Nat.le_refl _⟩) hP hS hA (fun H locs hP hS => ?_)
  refine r_top (show (ctR s st tl (nI 2)) = (nI (dep s (hE s))) from ct_ (by omega)) ?_
  refine lv_istore_n (lv' := [(1, .int (nI (dep s (hE s)))), (0, .ref x0)]) hx hb dL_holds_5 rfl hl (by decide) rfl (fun ls hl => ?_)
  refine lv_aload_n hx hb dL_holds_6 rfl (lv_at hl 1 rfl) ?_
  refine lv_iconst (v := (nI 0)) hx hb dL_holds_7 (by decide) ?_
  refine call_w (wr := [(xh, .inr (0, [.ref xhc, .int (nI st), .int (nI nx)])), (xhc, .inl (tq.1, 7365, .inl hc)), (xt, .inr (6, [.ref xtc, .int (nI tl)])), (xtc, .inl (tq.1, 100, .inl tx)), (xu, .inr (5, [.ref xus])), (xus, .inl (tq.1, 6, .inl uf))]) (va_runV (As := [.int (nI 0)]) (rest := []) ⟨hx, hb, hml, hown, hts⟩ (kX7_onChain ln dg tq (x0 := x0) (xl := xl) (xh := xh) (xt := xt) (xp := xp) (xo := xo) (xu := xu) (xw := xw) (xlc := xlc) (c := c) (s := s) (hF := hF) (xwe := xwe) (wl := wl) (wf := wf) (x := (nI 0)) H.size) (cwV 1 hts gL_holds_X7_onChain rfl rfl rfl hdX7_onChain ⟨Nat.le_of_ble_eq_true rfl, Nat.le_of_ble_eq_true rfl⟩) (preVB hK hN hP hD [0, 1, 2, 9, 10] rfl rfl rfl 0 rfl rfl [.int (nI 0)]) rfl rfl hl.1 rfl (lv_room (Nat.le_of_ble_eq_true rfl)) dL_holds_8 ⟨Nat.le_refl _, Nat.le_refl _⟩) hP hD hS hA [0, 1, 2, 9, 10] [3, 4, 5, 6, 7, 8] rfl rfl (by decide) (by decide) (fun r8 u8 H locs hw8 hP hD hS => ?_)
  obtain ⟨wl28, wf28⟩ := u8
  have hP : va_P dg vwCl [(xh, .inr (0, [.ref xhc, .int (nI st), .int (nI nx)])), (xhc, .inl (tq.1, 7365, .inl hc)), (xt, .inr (6, [.ref xtc, .int (nI tl)])), (xtc, .inl (tq.1, 100, .inl tx)), (xu, .inr (5, [.ref xus])), (xus, .inl (tq.1, 6, .inl uf)), (x0, .inr (7, [.ref xl, .ref xh, .ref xt, .ref xp, .ref xo, .ref xu, .ref xw])), (xl, .inr (1, [.ref xlc])), (xlc, .inl (tq.1, 1473, .inl c)), (xw, .inr (3, [.ref xwe, .int wl28])), (xwe, .inl (tq.1, 60, .inl wf28))] H := hP
  have hD : va_D AA [(xh, .inr (0, [.ref xhc, .int (nI st), .int (nI nx)])), (xhc, .inl (tq.1, 7365, .inl hc)), (xt, .inr (6, [.ref xtc, .int (nI tl)])), (xtc, .inl (tq.1, 100, .inl tx)), (xu, .inr (5, [.ref xus])), (xus, .inl (tq.1, 6, .inl uf)), (x0, .inr (7, [.ref xl, .ref xh, .ref xt, .ref xp, .ref xo, .ref xu, .ref xw])), (xl, .inr (1, [.ref xlc])), (xlc, .inl (tq.1, 1473, .inl c)), (xw, .inr (3, [.ref xwe, .int wl28])), (xwe, .inl (tq.1, 60, .inl wf28))] := hD
  subst hw8
  refine r_top (show (ocR s (nI 0)) = (nI (cE s 0)) from oc_ (by omega) (by omega)) ?_
  refine r_top (show (nI (cE s 0)) = (nI 0) from congrArg nI (cE_0 hW)) ?_
  refine r_if_ne (tgt := 43) hx hb (nI_tI (by omega)) dL_holds_11 (by decide) (fun c11 => False.elim (by omega)) (fun c11 => ?_)
  refine lv_aload_n hx hb dL_holds_14 rfl (lv_at hl 1 rfl) ?_
  refine lv_iload_n hx hb dL_holds_15 rfl (lv_at hl 0 rfl) ?_
  refine lv_iconst (v := (nI 1)) hx hb dL_holds_16 (by decide) ?_
  refine r_isub_n hx hb (by omega) dL_holds_17 ?_
  refine call_w (wr := [(xh, .inr (0, [.ref xhc, .int (nI st), .int (nI nx)])), (xhc, .inl (tq.1, 7365, .inl hc)), (xt, .inr (6, [.ref xtc, .int (nI tl)])), (xtc, .inl (tq.1, 100, .inl tx)), (xu, .inr (5, [.ref xus])), (xus, .inl (tq.1, 6, .inl uf))]) (va_runV (As := [.int (nI ((dep s (hE s)) - 1))]) (rest := []) ⟨hx, hb, hml, hown, hts⟩ (kX7_onChain ln dg tq (x0 := x0) (xl := xl) (xh := xh) (xt := xt) (xp := xp) (xo := xo) (xu := xu) (xw := xw) (xlc := xlc) (c := c) (s := s) (hF := hF) (xwe := xwe) (wl := wl28) (wf := wf28) (x := (nI ((dep s (hE s)) - 1))) H.size) (cwV 1 hts gL_holds_X7_onChain rfl rfl rfl hdX7_onChain ⟨Nat.le_of_ble_eq_true rfl, Nat.le_of_ble_eq_true rfl⟩) (preVB hK hN hP hD [6, 7, 8, 9, 10] rfl rfl rfl 6 rfl rfl [.int (nI ((dep s (hE s)) - 1))]) rfl rfl hl.1 rfl (lv_room (Nat.le_of_ble_eq_true rfl)) dL_holds_18 ⟨Nat.le_refl _, Nat.le_refl _⟩) hP hD hS hA [6, 7, 8, 9, 10] [0, 1, 2, 3, 4, 5] rfl rfl (by decide) (by decide) (fun r18 u18 H locs hw18 hP hD hS => ?_)
  obtain ⟨wl218, wf218⟩ := u18
  have hP : va_P dg vwCl [(xh, .inr (0, [.ref xhc, .int (nI st), .int (nI nx)])), (xhc, .inl (tq.1, 7365, .inl hc)), (xt, .inr (6, [.ref xtc, .int (nI tl)])), (xtc, .inl (tq.1, 100, .inl tx)), (xu, .inr (5, [.ref xus])), (xus, .inl (tq.1, 6, .inl uf)), (x0, .inr (7, [.ref xl, .ref xh, .ref xt, .ref xp, .ref xo, .ref xu, .ref xw])), (xl, .inr (1, [.ref xlc])), (xlc, .inl (tq.1, 1473, .inl c)), (xw, .inr (3, [.ref xwe, .int wl218])), (xwe, .inl (tq.1, 60, .inl wf218))] H := hP
  have hD : va_D AA [(xh, .inr (0, [.ref xhc, .int (nI st), .int (nI nx)])), (xhc, .inl (tq.1, 7365, .inl hc)), (xt, .inr (6, [.ref xtc, .int (nI tl)])), (xtc, .inl (tq.1, 100, .inl tx)), (xu, .inr (5, [.ref xus])), (xus, .inl (tq.1, 6, .inl uf)), (x0, .inr (7, [.ref xl, .ref xh, .ref xt, .ref xp, .ref xo, .ref xu, .ref xw])), (xl, .inr (1, [.ref xlc])), (xlc, .inl (tq.1, 1473, .inl c)), (xw, .inr (3, [.ref xwe, .int wl218])), (xwe, .inl (tq.1, 60, .inl wf218))] := hD
  subst hw18
  refine r_top (show (ocR s (nI ((dep s (hE s)) - 1))) = (nI (cE s (dep s (hE s) - 1))) from oc_ (by omega) (by omega)) ?_
  refine r_top (show (nI (cE s (dep s (hE s) - 1))) = (nI (hE s)) from congrArg nI (cE_last s)) ?_
  refine lv_aload_n hx hb dL_holds_21 rfl (lv_at hl 1 rfl) ?_
  refine lv_iconst (v := (nI 1)) hx hb dL_holds_22 (by decide) ?_
  refine call_x (va_runV (As := [.int (nI 1)]) (rest := [.int (nI (hE s))]) ⟨hx, hb, hml, hown, hts⟩ (kX7_count ln dg tq (x0 := x0) (xl := xl) (xh := xh) (xt := xt) (xp := xp) (xo := xo) (xu := xu) (xw := xw) (xlc := xlc) (c := c) (s := s) (hF := hF) (xhc := xhc) (st := st) (nx := nx) (hc := hc) (xtc := xtc) (tl := tl) (tx := tx) (x := (nI 1)) H.size) (cwV 1 hts gL_holds_X7_count rfl rfl rfl hdX7_count ⟨Nat.le_of_ble_eq_true rfl, Nat.le_of_ble_eq_true rfl⟩) (preVR hK hN hP [6, 7, 8, 0, 1, 2, 3] rfl 6 rfl rfl [.int (nI 1)]) rfl rfl hl.1 rfl (lv_room (Nat.le_of_ble_eq_true rfl)) dL_holds_23 ⟨Nat.le_refl _, Nat.le_refl _⟩) hP hS hA (fun H locs hP hS => ?_)
  refine r_top (show (ctR s st tl (nI 1)) = (nI (hE s)) from ct_ (by omega)) ?_
  refine r_icmp_ne (tgt := 43) hx hb (nI_tI (by omega)) (nI_tI (by omega)) dL_holds_26 (by decide) (fun c26 => False.elim (by omega)) (fun c26 => ?_)
  refine lv_aload_n hx hb dL_holds_29 rfl (lv_at hl 1 rfl) ?_
  refine lv_iload_n hx hb dL_holds_30 rfl (lv_at hl 0 rfl) ?_
  refine call_w (wr := [(xh, .inr (0, [.ref xhc, .int (nI st), .int (nI nx)])), (xhc, .inl (tq.1, 7365, .inl hc)), (xt, .inr (6, [.ref xtc, .int (nI tl)])), (xtc, .inl (tq.1, 100, .inl tx)), (xu, .inr (5, [.ref xus])), (xus, .inl (tq.1, 6, .inl uf))]) (va_runV (As := [.int (nI (dep s (hE s)))]) (rest := []) ⟨hx, hb, hml, hown, hts⟩ (kX7_onChain ln dg tq (x0 := x0) (xl := xl) (xh := xh) (xt := xt) (xp := xp) (xo := xo) (xu := xu) (xw := xw) (xlc := xlc) (c := c) (s := s) (hF := hF) (xwe := xwe) (wl := wl218) (wf := wf218) (x := (nI (dep s (hE s)))) H.size) (cwV 1 hts gL_holds_X7_onChain rfl rfl rfl hdX7_onChain ⟨Nat.le_of_ble_eq_true rfl, Nat.le_of_ble_eq_true rfl⟩) (preVB hK hN hP hD [6, 7, 8, 9, 10] rfl rfl rfl 6 rfl rfl [.int (nI (dep s (hE s)))]) rfl rfl hl.1 rfl (lv_room (Nat.le_of_ble_eq_true rfl)) dL_holds_31 ⟨Nat.le_refl _, Nat.le_refl _⟩) hP hD hS hA [6, 7, 8, 9, 10] [0, 1, 2, 3, 4, 5] rfl rfl (by decide) (by decide) (fun r31 u31 H locs hw31 hP hD hS => ?_)
  obtain ⟨wl231, wf231⟩ := u31
  have hP : va_P dg vwCl [(xh, .inr (0, [.ref xhc, .int (nI st), .int (nI nx)])), (xhc, .inl (tq.1, 7365, .inl hc)), (xt, .inr (6, [.ref xtc, .int (nI tl)])), (xtc, .inl (tq.1, 100, .inl tx)), (xu, .inr (5, [.ref xus])), (xus, .inl (tq.1, 6, .inl uf)), (x0, .inr (7, [.ref xl, .ref xh, .ref xt, .ref xp, .ref xo, .ref xu, .ref xw])), (xl, .inr (1, [.ref xlc])), (xlc, .inl (tq.1, 1473, .inl c)), (xw, .inr (3, [.ref xwe, .int wl231])), (xwe, .inl (tq.1, 60, .inl wf231))] H := hP
  have hD : va_D AA [(xh, .inr (0, [.ref xhc, .int (nI st), .int (nI nx)])), (xhc, .inl (tq.1, 7365, .inl hc)), (xt, .inr (6, [.ref xtc, .int (nI tl)])), (xtc, .inl (tq.1, 100, .inl tx)), (xu, .inr (5, [.ref xus])), (xus, .inl (tq.1, 6, .inl uf)), (x0, .inr (7, [.ref xl, .ref xh, .ref xt, .ref xp, .ref xo, .ref xu, .ref xw])), (xl, .inr (1, [.ref xlc])), (xlc, .inl (tq.1, 1473, .inl c)), (xw, .inr (3, [.ref xwe, .int wl231])), (xwe, .inl (tq.1, 60, .inl wf231))] := hD
  subst hw31
  refine r_top (show (ocR s (nI (dep s (hE s)))) = (-100009) from oc_out (by omega)) ?_
  refine lv_ldc hx hb hown k19 dL_holds_34 ?_
  refine r_icmp_ne (tgt := 43) hx hb (by decide : ((-100009) : Int32).toInt = (-100009)) (by decide : ((-100009) : Int32).toInt = (-100009)) dL_holds_36 (by decide) (fun c36 => False.elim (by omega)) (fun c36 => ?_)
  refine lv_iconst (v := (nI 1)) hx hb dL_holds_39 (by decide) ?_
  refine lv_goto (tgt := 44) hx hb dL_holds_40 (by decide) ?_
  refine lv_istore_n (lv' := [(2, .int (nI 1)), (1, .int (nI (dep s (hE s)))), (0, .ref x0)]) hx hb dL_holds_44 rfl hl (by decide) rfl (fun ls hl => ?_)
  refine lv_iconst (v := (nI 1)) hx hb dL_holds_45 (by decide) ?_
  refine lv_istore_n (lv' := [(3, .int (nI 1)), (2, .int (nI 1)), (1, .int (nI (dep s (hE s)))), (0, .ref x0)]) hx hb dL_holds_46 rfl hl (by decide) rfl (fun ls hl => ?_)
  have loop47 : ∀ (fu : Nat) (k_ : Nat) (f_ : Row) (wl_ : Int32) (wf_ : Row) (H : Heap) (locs : List Loc) (ls : Array Slot), (1 ≤ k_ ∧ k_ ≤ dep s (hE s)) → dep s (hE s) - k_ < fu → va_P dg vwCl [(x0, .inr (7, [.ref xl, .ref xh, .ref xt, .ref xp, .ref xo, .ref xu, .ref xw])), (xl, .inr (1, [.ref xlc])), (xlc, .inl (tq.1, 1473, .inl c)), (xh, .inr (0, [.ref xhc, .int (nI st), .int (nI nx)])), (xhc, .inl (tq.1, 7365, .inl hc)), (xt, .inr (6, [.ref xtc, .int (nI tl)])), (xtc, .inl (tq.1, 100, .inl tx)), (xu, .inr (5, [.ref xus])), (xus, .inl (tq.1, 6, .inl f_)), (xw, .inr (3, [.ref xwe, .int wl_])), (xwe, .inl (tq.1, 60, .inl wf_))] H → va_D AA [(x0, .inr (7, [.ref xl, .ref xh, .ref xt, .ref xp, .ref xo, .ref xu, .ref xw])), (xl, .inr (1, [.ref xlc])), (xlc, .inl (tq.1, 1473, .inl c)), (xh, .inr (0, [.ref xhc, .int (nI st), .int (nI nx)])), (xhc, .inl (tq.1, 7365, .inl hc)), (xt, .inr (6, [.ref xtc, .int (nI tl)])), (xtc, .inl (tq.1, 100, .inl tx)), (xu, .inr (5, [.ref xus])), (xus, .inl (tq.1, 6, .inl f_)), (xw, .inr (3, [.ref xwe, .int wl_])), (xwe, .inl (tq.1, 60, .inl wf_))] → va_S AA sS.heap H locs → lv_has ls 4 [(0, .ref x0), (1, .int (nI (dep s (hE s)))), (2, .int (nI 1)), (3, .int (nI k_))] → W pP ln eE (rmm 7 165) sS mM aA bB mT cC H locs 0 0 QQ (F0 mM 47 ls []) := by
    intro fu
    induction fu with
    | zero => intro k_ f_ wl_ wf_ H locs ls _ hm; exact absurd hm (Nat.not_lt_zero _)
    | succ fu ih47 =>
      intro k_ f_ wl_ wf_ H locs ls hinv hm hP hD hS hl
      obtain ⟨hj1, hj2⟩ := hinv
      refine lv_iload_n hx hb dL_holds_47 rfl (lv_at hl 3 rfl) ?_
      refine lv_iload_n hx hb dL_holds_48 rfl (lv_at hl 1 rfl) ?_
      refine r_icmp_ge (tgt := 88) hx hb (nI_tI (by omega)) (nI_tI (by omega)) dL_holds_49 (by decide) (fun c49 => ?_) (fun c49 => ?_)
      · skip
        refine lv_iload_n hx hb dL_holds_88 rfl (lv_at hl 2 rfl) ?_
        refine r_if_eq (tgt := 110) hx hb (nI_tI (by omega)) dL_holds_89 (by decide) (fun c89 => False.elim (by omega)) (fun c89 => ?_)
        refine lv_aload_n hx hb dL_holds_92 rfl (lv_at hl 0 rfl) ?_
        refine call_w (wr := [(xw, .inr (3, [.ref xwe, .int wl_])), (xwe, .inl (tq.1, 60, .inl wf_))]) (va_runS (As := [.ref x0]) (rest := []) ⟨hx, hb, hml, hown, hts⟩ (kL_entries ln dg tq (x0 := x0) (xl := xl) (xh := xh) (xt := xt) (xp := xp) (xo := xo) (xu := xu) (xw := xw) (xlc := xlc) (c := c) (s := s) (xhc := xhc) (st := st) (nx := nx) (hc := hc) (hL := hL) (xtc := xtc) (tl := tl) (tx := tx) (xus := xus) (uf := f_) H.size) (va_cwS 1 hts gL_holds_L_entries rfl rfl rfl hdL_entries.2 ⟨Nat.le_of_ble_eq_true rfl, Nat.le_of_ble_eq_true rfl⟩) (preSB hK hN hP hD [0, 1, 2, 3, 4, 5, 6, 7, 8] rfl rfl rfl [.ref x0]) rfl rfl hl.1 rfl (lv_room (Nat.le_of_ble_eq_true rfl)) dL_holds_93 ⟨Nat.le_refl _, Nat.le_refl _⟩) hP hD hS hA [0, 1, 2, 3, 4, 5, 6, 7, 8] [9, 10] rfl rfl (by decide) (by decide) (fun r93 u93 H locs hw93 hP hD hS => ?_)
        obtain ⟨uf293, rfl⟩ : ∃ z, z = u93 := ⟨_, rfl⟩
        have hP : va_P dg vwCl [(xw, .inr (3, [.ref xwe, .int wl_])), (xwe, .inl (tq.1, 60, .inl wf_)), (x0, .inr (7, [.ref xl, .ref xh, .ref xt, .ref xp, .ref xo, .ref xu, .ref xw])), (xl, .inr (1, [.ref xlc])), (xlc, .inl (tq.1, 1473, .inl c)), (xh, .inr (0, [.ref xhc, .int (nI st), .int (nI nx)])), (xhc, .inl (tq.1, 7365, .inl hc)), (xt, .inr (6, [.ref xtc, .int (nI tl)])), (xtc, .inl (tq.1, 100, .inl tx)), (xu, .inr (5, [.ref xus])), (xus, .inl (tq.1, 6, .inl uf293))] H := hP
        have hD : va_D AA [(xw, .inr (3, [.ref xwe, .int wl_])), (xwe, .inl (tq.1, 60, .inl wf_)), (x0, .inr (7, [.ref xl, .ref xh, .ref xt, .ref xp, .ref xo, .ref xu, .ref xw])), (xl, .inr (1, [.ref xlc])), (xlc, .inl (tq.1, 1473, .inl c)), (xh, .inr (0, [.ref xhc, .int (nI st), .int (nI nx)])), (xhc, .inl (tq.1, 7365, .inl hc)), (xt, .inr (6, [.ref xtc, .int (nI tl)])), (xtc, .inl (tq.1, 100, .inl tx)), (xu, .inr (5, [.ref xus])), (xus, .inl (tq.1, 6, .inl uf293))] := hD
        subst hw93
        refine r_if_eq (tgt := 110) hx hb (nI_tI (by omega)) dL_holds_96 (by decide) (fun c96 => False.elim (by omega)) (fun c96 => ?_)
        refine lv_aload_n hx hb dL_holds_99 rfl (lv_at hl 0 rfl) ?_
        refine call_w (wr := [(xw, .inr (3, [.ref xwe, .int wl_])), (xwe, .inl (tq.1, 60, .inl wf_))]) (va_runS (As := [.ref x0]) (rest := []) ⟨hx, hb, hml, hown, hts⟩ (kL_branches ln dg tq (x0 := x0) (xl := xl) (xh := xh) (xt := xt) (xp := xp) (xo := xo) (xu := xu) (xw := xw) (xlc := xlc) (c := c) (s := s) (xhc := xhc) (st := st) (nx := nx) (hc := hc) (hL := hL) (xtc := xtc) (tl := tl) (tx := tx) (xus := xus) (uf := uf293) H.size) (va_cwS 1 hts gL_holds_L_branches rfl rfl rfl hdL_branches.2 ⟨Nat.le_of_ble_eq_true rfl, Nat.le_of_ble_eq_true rfl⟩) (preSB hK hN hP hD [2, 3, 4, 5, 6, 7, 8, 9, 10] rfl rfl rfl [.ref x0]) rfl rfl hl.1 rfl (lv_room (Nat.le_of_ble_eq_true rfl)) dL_holds_100 ⟨Nat.le_refl _, Nat.le_refl _⟩) hP hD hS hA [2, 3, 4, 5, 6, 7, 8, 9, 10] [0, 1] rfl rfl (by decide) (by decide) (fun r100 u100 H locs hw100 hP hD hS => ?_)
        obtain ⟨uf2100, rfl⟩ : ∃ z, z = u100 := ⟨_, rfl⟩
        have hP : va_P dg vwCl [(xw, .inr (3, [.ref xwe, .int wl_])), (xwe, .inl (tq.1, 60, .inl wf_)), (x0, .inr (7, [.ref xl, .ref xh, .ref xt, .ref xp, .ref xo, .ref xu, .ref xw])), (xl, .inr (1, [.ref xlc])), (xlc, .inl (tq.1, 1473, .inl c)), (xh, .inr (0, [.ref xhc, .int (nI st), .int (nI nx)])), (xhc, .inl (tq.1, 7365, .inl hc)), (xt, .inr (6, [.ref xtc, .int (nI tl)])), (xtc, .inl (tq.1, 100, .inl tx)), (xu, .inr (5, [.ref xus])), (xus, .inl (tq.1, 6, .inl uf2100))] H := hP
        have hD : va_D AA [(xw, .inr (3, [.ref xwe, .int wl_])), (xwe, .inl (tq.1, 60, .inl wf_)), (x0, .inr (7, [.ref xl, .ref xh, .ref xt, .ref xp, .ref xo, .ref xu, .ref xw])), (xl, .inr (1, [.ref xlc])), (xlc, .inl (tq.1, 1473, .inl c)), (xh, .inr (0, [.ref xhc, .int (nI st), .int (nI nx)])), (xhc, .inl (tq.1, 7365, .inl hc)), (xt, .inr (6, [.ref xtc, .int (nI tl)])), (xtc, .inl (tq.1, 100, .inl tx)), (xu, .inr (5, [.ref xus])), (xus, .inl (tq.1, 6, .inl uf2100))] := hD
        subst hw100
        refine r_if_eq (tgt := 110) hx hb (nI_tI (by omega)) dL_holds_103 (by decide) (fun c103 => False.elim (by omega)) (fun c103 => ?_)
        refine lv_iconst (v := (nI 1)) hx hb dL_holds_106 (by decide) ?_
        refine lv_goto (tgt := 111) hx hb dL_holds_107 (by decide) ?_
        exact hret (nI 1) (uf2100, wl_, wf_) H locs _ ls (show (nI 1) = (nI 1) from (rfl)) rfl (hP.sub [2, 3, 4, 5, 6, 7, 8, 9, 10, 0, 1] rfl) (hD.sub [2, 3, 4, 5, 6, 7, 8, 9, 10, 0, 1] (by decide) rfl) hS dL_holds_111
      · skip
        refine lv_iload_n hx hb dL_holds_52 rfl (lv_at hl 2 rfl) ?_
        refine r_if_eq (tgt := 88) hx hb (nI_tI (by omega)) dL_holds_53 (by decide) (fun c53 => False.elim (by omega)) (fun c53 => ?_)
        have hcs := cE_s hW (k := k_ - 1) (by omega)
        rw [show k_ - 1 + 1 = k_ by omega] at hcs
        obtain ⟨hc1, hc2⟩ := hcs
        have hc3 := cE_in hW (k := k_) (by omega)
        have hc4 := cE_in hW (k := k_ - 1) (by omega)
        refine lv_aload_n hx hb dL_holds_56 rfl (lv_at hl 0 rfl) ?_
        refine lv_aload_n hx hb dL_holds_57 rfl (lv_at hl 0 rfl) ?_
        refine lv_iload_n hx hb dL_holds_58 rfl (lv_at hl 3 rfl) ?_
        refine call_w (wr := [(xh, .inr (0, [.ref xhc, .int (nI st), .int (nI nx)])), (xhc, .inl (tq.1, 7365, .inl hc)), (xt, .inr (6, [.ref xtc, .int (nI tl)])), (xtc, .inl (tq.1, 100, .inl tx)), (xu, .inr (5, [.ref xus])), (xus, .inl (tq.1, 6, .inl f_))]) (va_runV (As := [.int (nI k_)]) (rest := [.ref x0]) ⟨hx, hb, hml, hown, hts⟩ (kX7_onChain ln dg tq (x0 := x0) (xl := xl) (xh := xh) (xt := xt) (xp := xp) (xo := xo) (xu := xu) (xw := xw) (xlc := xlc) (c := c) (s := s) (hF := hF) (xwe := xwe) (wl := wl_) (wf := wf_) (x := (nI k_)) H.size) (cwV 1 hts gL_holds_X7_onChain rfl rfl rfl hdX7_onChain ⟨Nat.le_of_ble_eq_true rfl, Nat.le_of_ble_eq_true rfl⟩) (preVB hK hN hP hD [0, 1, 2, 9, 10] rfl rfl rfl 0 rfl rfl [.int (nI k_)]) rfl rfl hl.1 rfl (lv_room (Nat.le_of_ble_eq_true rfl)) dL_holds_59 ⟨Nat.le_refl _, Nat.le_refl _⟩) hP hD hS hA [0, 1, 2, 9, 10] [3, 4, 5, 6, 7, 8] rfl rfl (by decide) (by decide) (fun r59 u59 H locs hw59 hP hD hS => ?_)
        obtain ⟨wl259, wf259⟩ := u59
        have hP : va_P dg vwCl [(xh, .inr (0, [.ref xhc, .int (nI st), .int (nI nx)])), (xhc, .inl (tq.1, 7365, .inl hc)), (xt, .inr (6, [.ref xtc, .int (nI tl)])), (xtc, .inl (tq.1, 100, .inl tx)), (xu, .inr (5, [.ref xus])), (xus, .inl (tq.1, 6, .inl f_)), (x0, .inr (7, [.ref xl, .ref xh, .ref xt, .ref xp, .ref xo, .ref xu, .ref xw])), (xl, .inr (1, [.ref xlc])), (xlc, .inl (tq.1, 1473, .inl c)), (xw, .inr (3, [.ref xwe, .int wl259])), (xwe, .inl (tq.1, 60, .inl wf259))] H := hP
        have hD : va_D AA [(xh, .inr (0, [.ref xhc, .int (nI st), .int (nI nx)])), (xhc, .inl (tq.1, 7365, .inl hc)), (xt, .inr (6, [.ref xtc, .int (nI tl)])), (xtc, .inl (tq.1, 100, .inl tx)), (xu, .inr (5, [.ref xus])), (xus, .inl (tq.1, 6, .inl f_)), (x0, .inr (7, [.ref xl, .ref xh, .ref xt, .ref xp, .ref xo, .ref xu, .ref xw])), (xl, .inr (1, [.ref xlc])), (xlc, .inl (tq.1, 1473, .inl c)), (xw, .inr (3, [.ref xwe, .int wl259])), (xwe, .inl (tq.1, 60, .inl wf259))] := hD
        subst hw59
        refine r_top (show (ocR s (nI k_)) = (nI (cE s k_)) from oc_ (by omega) (by omega)) ?_
        refine lv_iconst (v := (nI 4)) hx hb dL_holds_62 (by decide) ?_
        refine call_w (wr := [(xh, .inr (0, [.ref xhc, .int (nI st), .int (nI nx)])), (xhc, .inl (tq.1, 7365, .inl hc)), (xt, .inr (6, [.ref xtc, .int (nI tl)])), (xtc, .inl (tq.1, 100, .inl tx)), (xw, .inr (3, [.ref xwe, .int wl259])), (xwe, .inl (tq.1, 60, .inl wf259))]) (va_runV (As := [.int (nI (cE s k_)), .int (nI 4)]) (rest := []) ⟨hx, hb, hml, hown, hts⟩ (kX7_entry ln dg tq (x0 := x0) (xl := xl) (xh := xh) (xt := xt) (xp := xp) (xo := xo) (xu := xu) (xw := xw) (xlc := xlc) (c := c) (s := s) (hF := hF) (xus := xus) (uf := f_) (x := (nI (cE s k_))) (w := (nI 4)) H.size) (cwV 2 hts gL_holds_X7_entry rfl rfl rfl hdX7_entry ⟨Nat.le_of_ble_eq_true rfl, Nat.le_of_ble_eq_true rfl⟩) (preVB hK hN hP hD [6, 7, 8, 4, 5] rfl rfl rfl 6 rfl rfl [.int (nI (cE s k_)), .int (nI 4)]) rfl rfl hl.1 rfl (lv_room (Nat.le_of_ble_eq_true rfl)) dL_holds_63 ⟨Nat.le_refl _, Nat.le_refl _⟩) hP hD hS hA [6, 7, 8, 4, 5] [0, 1, 2, 3, 9, 10] rfl rfl (by decide) (by decide) (fun r63 u63 H locs hw63 hP hD hS => ?_)
        obtain ⟨uf263, rfl⟩ : ∃ z, z = u63 := ⟨_, rfl⟩
        have hP : va_P dg vwCl [(xh, .inr (0, [.ref xhc, .int (nI st), .int (nI nx)])), (xhc, .inl (tq.1, 7365, .inl hc)), (xt, .inr (6, [.ref xtc, .int (nI tl)])), (xtc, .inl (tq.1, 100, .inl tx)), (xw, .inr (3, [.ref xwe, .int wl259])), (xwe, .inl (tq.1, 60, .inl wf259)), (x0, .inr (7, [.ref xl, .ref xh, .ref xt, .ref xp, .ref xo, .ref xu, .ref xw])), (xl, .inr (1, [.ref xlc])), (xlc, .inl (tq.1, 1473, .inl c)), (xu, .inr (5, [.ref xus])), (xus, .inl (tq.1, 6, .inl uf263))] H := hP
        have hD : va_D AA [(xh, .inr (0, [.ref xhc, .int (nI st), .int (nI nx)])), (xhc, .inl (tq.1, 7365, .inl hc)), (xt, .inr (6, [.ref xtc, .int (nI tl)])), (xtc, .inl (tq.1, 100, .inl tx)), (xw, .inr (3, [.ref xwe, .int wl259])), (xwe, .inl (tq.1, 60, .inl wf259)), (x0, .inr (7, [.ref xl, .ref xh, .ref xt, .ref xp, .ref xo, .ref xu, .ref xw])), (xl, .inr (1, [.ref xlc])), (xlc, .inl (tq.1, 1473, .inl c)), (xu, .inr (5, [.ref xus])), (xus, .inl (tq.1, 6, .inl uf263))] := hD
        subst hw63
        refine r_top (show (etR s (nI (cE s k_)) (nI 4)) = (nI (pa s (cE s k_))) from (et_ (by omega) (by omega) (by omega)).trans (hW.p (by omega) (by omega))) ?_
        refine r_top (show (nI (pa s (cE s k_))) = (nI (cE s (k_ - 1))) from congrArg nI hc2) ?_
        refine lv_aload_n hx hb dL_holds_66 rfl (lv_at hl 0 rfl) ?_
        refine lv_iload_n hx hb dL_holds_67 rfl (lv_at hl 3 rfl) ?_
        refine lv_iconst (v := (nI 1)) hx hb dL_holds_68 (by decide) ?_
        refine r_isub_n hx hb (by omega) dL_holds_69 ?_
        refine call_w (wr := [(xh, .inr (0, [.ref xhc, .int (nI st), .int (nI nx)])), (xhc, .inl (tq.1, 7365, .inl hc)), (xt, .inr (6, [.ref xtc, .int (nI tl)])), (xtc, .inl (tq.1, 100, .inl tx)), (xu, .inr (5, [.ref xus])), (xus, .inl (tq.1, 6, .inl uf263))]) (va_runV (As := [.int (nI (k_ - 1))]) (rest := [.int (nI (cE s (k_ - 1)))]) ⟨hx, hb, hml, hown, hts⟩ (kX7_onChain ln dg tq (x0 := x0) (xl := xl) (xh := xh) (xt := xt) (xp := xp) (xo := xo) (xu := xu) (xw := xw) (xlc := xlc) (c := c) (s := s) (hF := hF) (xwe := xwe) (wl := wl259) (wf := wf259) (x := (nI (k_ - 1))) H.size) (cwV 1 hts gL_holds_X7_onChain rfl rfl rfl hdX7_onChain ⟨Nat.le_of_ble_eq_true rfl, Nat.le_of_ble_eq_true rfl⟩) (preVB hK hN hP hD [6, 7, 8, 4, 5] rfl rfl rfl 6 rfl rfl [.int (nI (k_ - 1))]) rfl rfl hl.1 rfl (lv_room (Nat.le_of_ble_eq_true rfl)) dL_holds_70 ⟨Nat.le_refl _, Nat.le_refl _⟩) hP hD hS hA [6, 7, 8, 4, 5] [0, 1, 2, 3, 9, 10] rfl rfl (by decide) (by decide) (fun r70 u70 H locs hw70 hP hD hS => ?_)
        obtain ⟨wl270, wf270⟩ := u70
        have hP : va_P dg vwCl [(xh, .inr (0, [.ref xhc, .int (nI st), .int (nI nx)])), (xhc, .inl (tq.1, 7365, .inl hc)), (xt, .inr (6, [.ref xtc, .int (nI tl)])), (xtc, .inl (tq.1, 100, .inl tx)), (xu, .inr (5, [.ref xus])), (xus, .inl (tq.1, 6, .inl uf263)), (x0, .inr (7, [.ref xl, .ref xh, .ref xt, .ref xp, .ref xo, .ref xu, .ref xw])), (xl, .inr (1, [.ref xlc])), (xlc, .inl (tq.1, 1473, .inl c)), (xw, .inr (3, [.ref xwe, .int wl270])), (xwe, .inl (tq.1, 60, .inl wf270))] H := hP
        have hD : va_D AA [(xh, .inr (0, [.ref xhc, .int (nI st), .int (nI nx)])), (xhc, .inl (tq.1, 7365, .inl hc)), (xt, .inr (6, [.ref xtc, .int (nI tl)])), (xtc, .inl (tq.1, 100, .inl tx)), (xu, .inr (5, [.ref xus])), (xus, .inl (tq.1, 6, .inl uf263)), (x0, .inr (7, [.ref xl, .ref xh, .ref xt, .ref xp, .ref xo, .ref xu, .ref xw])), (xl, .inr (1, [.ref xlc])), (xlc, .inl (tq.1, 1473, .inl c)), (xw, .inr (3, [.ref xwe, .int wl270])), (xwe, .inl (tq.1, 60, .inl wf270))] := hD
        subst hw70
        refine r_top (show (ocR s (nI (k_ - 1))) = (nI (cE s (k_ - 1))) from oc_ (by omega) (by omega)) ?_
        refine r_icmp_ne (tgt := 80) hx hb (nI_tI (by omega)) (nI_tI (by omega)) dL_holds_73 (by decide) (fun c73 => False.elim (by omega)) (fun c73 => ?_)
        refine lv_iconst (v := (nI 1)) hx hb dL_holds_76 (by decide) ?_
        refine lv_goto (tgt := 81) hx hb dL_holds_77 (by decide) ?_
        refine lv_istore_n (lv' := [(2, .int (nI 1)), (0, .ref x0), (1, .int (nI (dep s (hE s)))), (3, .int (nI k_))]) hx hb dL_holds_81 rfl hl (by decide) rfl (fun ls hl => ?_)
        refine lv_iinc (v := (nI (k_ + 1))) (lv' := [(3, .int (nI (k_ + 1))), (2, .int (nI 1)), (0, .ref x0), (1, .int (nI (dep s (hE s))))]) hx hb dL_holds_82 hl (k := 3) rfl (nI_add _ _) (by decide) rfl (fun ls hl => ?_)
        refine lv_goto (tgt := 47) hx hb dL_holds_85 (by decide) ?_
        exact ih47 (k_ + 1) uf263 wl270 wf270 H locs ls (⟨by omega, by omega⟩) (by omega) (hP.sub [6, 7, 8, 0, 1, 2, 3, 4, 5, 9, 10] rfl) (hD.sub [6, 7, 8, 0, 1, 2, 3, 4, 5, 9, 10] (by decide) rfl) hS (lv_sub hl [2, 3, 1, 0] rfl)
  exact loop47 _ 1 uf wl231 wf231 H locs ls (⟨by omega, by omega⟩) (Nat.lt_succ_self _) (hP.sub [6, 7, 8, 0, 1, 2, 3, 4, 5, 9, 10] rfl) (hD.sub [6, 7, 8, 0, 1, 2, 3, 4, 5, 9, 10] (by decide) rfl) hS (lv_sub hl [3, 2, 1, 0] rfl)
