theorem hdX7_orders : yX7_orders.cls = RX7 ∧ yX7_orders.cls ≠ "java/lang/invoke/MethodHandle" ∧ yX7_orders.cls ≠ "java/lang/invoke/VarHandle" ∧ (parseMethodDescriptor yX7_orders.desc).map (fun d => d.parameters.length) = some 0 := by decide +kernel
set_option maxHeartbeats 4000000 in
set_option maxRecDepth 100000 in
theorem kX7_orders (ln : Launch) (dg : va_G) (tq : ClassId × ClassId) (x0 xl xh xt xp xu xw : Nat)(xlc : Nat) (c : Row) (s : Row) (hF : FS s c)(xo wt wy pb pt pp b1 t1 q1 : Nat) (osz ql : Int32) (wr wyr bf tf qf : Row) : MW ln yX7_orders wsX7_orders (rmm 6 140) dg tq [.ref x0] [(x0, .inr (7, [.ref xl, .ref xh, .ref xt, .ref xp, .ref xo, .ref xu, .ref xw])), (xl, .inr (1, [.ref xlc])), (xlc, .inl (tq.1, 1473, .inl c)), (xo, .inr (2, [.ref wt, .ref wy, .ref pb, .ref pt, .ref pp, .int osz])), (wt, .inl (tq.1, 5, .inl wr)), (wy, .inl (tq.1, 32, .inl wyr)), (pb, .inr (5, [.ref b1])), (b1, .inl (tq.1, 6, .inl bf)), (pt, .inr (5, [.ref t1])), (t1, .inl (tq.1, 6, .inl tf)), (pp, .inr (3, [.ref q1, .int ql])), (q1, .inl (tq.1, 60, .inl qf))] (fun (r : Int32) (u : Int32 × Row × Row × Row × Row × Int32 × Row) => r = (orR s)) (fun u => [(x0, .inr (7, [.ref xl, .ref xh, .ref xt, .ref xp, .ref xo, .ref xu, .ref xw])), (xl, .inr (1, [.ref xlc])), (xlc, .inl (tq.1, 1473, .inl c)), (xo, .inr (2, [.ref wt, .ref wy, .ref pb, .ref pt, .ref pp, .int u.1])), (wt, .inl (tq.1, 5, .inl u.2.1)), (wy, .inl (tq.1, 32, .inl u.2.2.1)), (pb, .inr (5, [.ref b1])), (b1, .inl (tq.1, 6, .inl u.2.2.2.1)), (pt, .inr (5, [.ref t1])), (t1, .inl (tq.1, 6, .inl u.2.2.2.2.1)), (pp, .inr (3, [.ref q1, .int u.2.2.2.2.2.1])), (q1, .inl (tq.1, 60, .inl u.2.2.2.2.2.2))]) := by
  refine MW.enter cX7_orders 1 .int (by decide) rfl rfl (Nat.le_of_ble_eq_true rfl) ?_
  intro pP eE sS mM aA bB mT cC QQ AA hA hAT hret H locs hP hD hS ls hl
  obtain ⟨hx, hb, hml, hown, hts, hK, hN⟩ := hAT
  have hown : sS.vm.findClass RX7 = some mM.cls := hown
  have hl : lv_has ls 1 [(0, .ref x0)] := hl
  have in7 : ∀ w ∈ u_ws RX7 TX7 7, w ∈ wsX7_orders := (fun _ h9 => List.mem_cons_of_mem _ (List.mem_append_left _ (List.mem_append_left _ (List.mem_append_left _ (List.mem_append_left _ (List.mem_append_right _ h9))))))
  have f12 := hts (.fieldLink RX7 12 "OrphanChain" "ledger" "LOrphanChain$Ledger;") (List.mem_of_getElem? (i := 1) rfl)
  have f40 := hts (.fieldLink RX7 40 "OrphanChain" "adoptions" "LOrphanChain$Orders;") (List.mem_of_getElem? (i := 3) rfl)
  have k104 := hts (.constant RX7 104 (-100009)) (List.mem_of_getElem? (i := 2) rfl)
  obtain ⟨hR, hW, hs0, hs1⟩ := id hF
  have hn60 := hW.n60
  have hb10 := hW.b10
  have hs8 := hW.s8
  have hhn := hW.hn
  have hcl := cntF_le (loudB s) (nB s)
  have hnw : cntF (waitB s) (nB s) ≤ nB s := cntF_le _ _
  refine lv_aload_n hx hb dX7_orders_0 rfl (lv_at hl 0 rfl) ?_
  refine va_get (D := dg) (ci := 7) (v := .ref xl) (C := RX7) (T := TX7) (N := 7) hx hb hts in7 hown hK hP 0 rfl rfl 0 (by decide) f12 (fun _ h9 => h9) rfl dX7_orders_1 ?_
  refine call_x (va_runV (As := []) (rest := []) ⟨hx, hb, hml, hown, hts⟩ (kX1_waitingBranches ln dg tq (h0 := xl) (h1 := xlc) (c := c) (s := s) (hR := (by omega)) (hW := (by omega)) H.size) (cwV 0 hts gX7_orders_X1_waitingBranches rfl rfl rfl hdX1_waitingBranches ⟨Nat.le_of_ble_eq_true rfl, Nat.le_of_ble_eq_true rfl⟩) (preVR hK hN hP [1, 2] rfl 1 rfl rfl []) rfl rfl hl.1 rfl (lv_room (Nat.le_of_ble_eq_true rfl)) dX7_orders_4 ⟨Nat.le_refl _, Nat.le_refl _⟩) hP hS hA (fun H locs hP hS => ?_)
  refine lv_iconst (v := (nI 5)) hx hb dX7_orders_7 (by decide) ?_
  refine r_icmp_le (tgt := 14) hx hb (nI_tI (by omega)) (nI_tI (by omega)) dX7_orders_8 (by decide) (fun c8 => ?_) (fun c8 => ?_)
  · skip
    refine lv_aload_n hx hb dX7_orders_14 rfl (lv_at hl 0 rfl) ?_
    refine va_get (D := dg) (ci := 7) (v := .ref xo) (C := RX7) (T := TX7) (N := 7) hx hb hts in7 hown hK hP 0 rfl rfl 4 (by decide) f40 (fun _ h9 => h9) rfl dX7_orders_15 ?_
    refine lv_aload_n hx hb dX7_orders_18 rfl (lv_at hl 0 rfl) ?_
    refine va_get (D := dg) (ci := 7) (v := .ref xl) (C := RX7) (T := TX7) (N := 7) hx hb hts in7 hown hK hP 0 rfl rfl 0 (by decide) f12 (fun _ h9 => h9) rfl dX7_orders_19 ?_
    refine call_w (wr := [(x0, .inr (7, [.ref xl, .ref xh, .ref xt, .ref xp, .ref xo, .ref xu, .ref xw]))]) (va_runV (As := [.ref xl]) (rest := []) ⟨hx, hb, hml, hown, hts⟩ (kX2_howMany ln dg tq (osz := osz) (o0 := xo) (wt := wt) (wy := wy) (pb := pb) (pt := pt) (pp := pp) (b1 := b1) (t1 := t1) (q1 := q1) (wr := wr) (wyr := wyr) (bf := bf) (tf := tf) (qf := qf) (ql := ql) (h0 := xl) (h1 := xlc) (c := c) (s := s) (hR := (by omega)) (hW := (by omega)) (h5 := (by show cntF (waitB s) (nB s) ≤ 5; omega)) H.size) (cwV 1 hts gX7_orders_X2_howMany rfl rfl rfl hdX2_howMany ⟨Nat.le_of_ble_eq_true rfl, Nat.le_of_ble_eq_true rfl⟩) (preVB hK hN hP hD [3, 4, 5, 6, 7, 8, 9, 10, 11, 1, 2] rfl rfl rfl 3 rfl rfl [.ref xl]) rfl rfl hl.1 rfl (lv_room (Nat.le_of_ble_eq_true rfl)) dX7_orders_22 ⟨Nat.le_refl _, Nat.le_refl _⟩) hP hD hS hA [3, 4, 5, 6, 7, 8, 9, 10, 11, 1, 2] [0] rfl rfl (by decide) (by decide) (fun r22 u22 H locs hw22 hP hD hS => ?_)
    obtain ⟨gw22, gy22, gb22, gt22, l222, p222⟩ := u22
    have hP : va_P dg vwCl [(x0, .inr (7, [.ref xl, .ref xh, .ref xt, .ref xp, .ref xo, .ref xu, .ref xw])), (xo, .inr (2, [.ref wt, .ref wy, .ref pb, .ref pt, .ref pp, .int (nI (nW s))])), (wt, .inl (tq.1, 5, .inl gw22)), (wy, .inl (tq.1, 32, .inl gy22)), (pb, .inr (5, [.ref b1])), (b1, .inl (tq.1, 6, .inl gb22)), (pt, .inr (5, [.ref t1])), (t1, .inl (tq.1, 6, .inl gt22)), (pp, .inr (3, [.ref q1, .int l222])), (q1, .inl (tq.1, 60, .inl p222)), (xl, .inr (1, [.ref xlc])), (xlc, .inl (tq.1, 1473, .inl c))] H := hP
    have hD : va_D AA [(x0, .inr (7, [.ref xl, .ref xh, .ref xt, .ref xp, .ref xo, .ref xu, .ref xw])), (xo, .inr (2, [.ref wt, .ref wy, .ref pb, .ref pt, .ref pp, .int (nI (nW s))])), (wt, .inl (tq.1, 5, .inl gw22)), (wy, .inl (tq.1, 32, .inl gy22)), (pb, .inr (5, [.ref b1])), (b1, .inl (tq.1, 6, .inl gb22)), (pt, .inr (5, [.ref t1])), (t1, .inl (tq.1, 6, .inl gt22)), (pp, .inr (3, [.ref q1, .int l222])), (q1, .inl (tq.1, 60, .inl p222)), (xl, .inr (1, [.ref xlc])), (xlc, .inl (tq.1, 1473, .inl c))] := hD
    subst hw22
    exact hret (ordS s (2 ^ nW s) (2 ^ nW s - 1)) ((nI (nW s)), gw22, gy22, gb22, gt22, l222, p222) H locs _ ls (show (ordS s (2 ^ nW s) (2 ^ nW s - 1)) = (orR s) from (by unfold orR; rw [if_neg (by show ¬ 5 < cntF (waitB s) (nB s); omega)])) rfl (hP.sub [0, 10, 11, 1, 2, 3, 4, 5, 6, 7, 8, 9] rfl) (hD.sub [0, 10, 11, 1, 2, 3, 4, 5, 6, 7, 8, 9] (by decide) rfl) hS dX7_orders_25
  · skip
    refine lv_ldc hx hb hown k104 dX7_orders_11 ?_
    exact hret (-100009) (osz, wr, wyr, bf, tf, ql, qf) H locs _ ls (show (-100009) = (orR s) from (by unfold orR; rw [if_pos (by show 5 < cntF (waitB s) (nB s); omega)])) rfl (hP.sub [0, 1, 2, 3, 4, 5, 6, 7, 8, 9, 10, 11] rfl) (hD.sub [0, 1, 2, 3, 4, 5, 6, 7, 8, 9, 10, 11] (by decide) rfl) hS dX7_orders_13
theorem hdX7_check : yX7_check.cls = RX7 ∧ yX7_check.cls ≠ "java/lang/invoke/MethodHandle" ∧ yX7_check.cls ≠ "java/lang/invoke/VarHandle" ∧ (parseMethodDescriptor yX7_check.desc).map (fun d => d.parameters.length) = some 0 := by decide +kernel
set_option maxHeartbeats 4000000 in
set_option maxRecDepth 100000 in
theorem kX7_check (ln : Launch) (dg : va_G) (tq : ClassId × ClassId) (x0 xl xh xt xp xo xu xw : Nat)(xlc : Nat) (c : Row) (s : Row) (hF : FS s c)(xtc : Nat) (tl : Nat) (tx : Row) (xpn : Nat) (xs : Int32) (nb : Row)(xwe : Nat) (wl : Int32) (wf : Row) (hT : TOK tx tl) : MW ln yX7_check wsX7_check (rmm 3 70) dg tq [.ref x0] [(x0, .inr (7, [.ref xl, .ref xh, .ref xt, .ref xp, .ref xo, .ref xu, .ref xw])), (xl, .inr (1, [.ref xlc])), (xlc, .inl (tq.1, 1473, .inl c)), (xt, .inr (6, [.ref xtc, .int (nI tl)])), (xtc, .inl (tq.1, 100, .inl tx)), (xp, .inr (4, [.ref xpn, .int xs])), (xpn, .inl (tq.1, 100, .inl nb)), (xw, .inr (3, [.ref xwe, .int wl])), (xwe, .inl (tq.1, 60, .inl wf))] (fun (r : Int32) (u : Nat × Row × Int32 × Row) => r = (ckR s tx tl)) (fun u => [(x0, .inr (7, [.ref xl, .ref xh, .ref xt, .ref xp, .ref xo, .ref xu, .ref xw])), (xl, .inr (1, [.ref xlc])), (xlc, .inl (tq.1, 1473, .inl c)), (xt, .inr (6, [.ref xtc, .int (nI tl)])), (xtc, .inl (tq.1, 100, .inl tx)), (xp, .inr (4, [.ref xpn, .int (nI u.1)])), (xpn, .inl (tq.1, 100, .inl u.2.1)), (xw, .inr (3, [.ref xwe, .int u.2.2.1])), (xwe, .inl (tq.1, 60, .inl u.2.2.2))]) := by
  refine MW.enter cX7_check 6 .int (by decide) rfl rfl (Nat.le_of_ble_eq_true rfl) ?_
  intro pP eE sS mM aA bB mT cC QQ AA hA hAT hret H locs hP hD hS ls hl
  obtain ⟨hx, hb, hml, hown, hts, hK, hN⟩ := hAT
  have hown : sS.vm.findClass RX7 = some mM.cls := hown
  have hl : lv_has ls 6 [(0, .ref x0)] := hl
  have in7 : ∀ w ∈ u_ws RX7 TX7 7, w ∈ wsX7_check := (fun _ h9 => List.mem_cons_of_mem _ (List.mem_append_left _ (List.mem_append_left _ (List.mem_append_left _ (List.mem_append_left _ (List.mem_append_right _ h9))))))
  have f33 := hts (.fieldLink RX7 33 "OrphanChain" "proof" "LOrphanChain$Proof;") (List.mem_of_getElem? (i := 1) rfl)
  have f26 := hts (.fieldLink RX7 26 "OrphanChain" "text" "LOrphanChain$Text;") (List.mem_of_getElem? (i := 2) rfl)
  have f12 := hts (.fieldLink RX7 12 "OrphanChain" "ledger" "LOrphanChain$Ledger;") (List.mem_of_getElem? (i := 3) rfl)
  have k65 := hts (.constant RX7 65 (-100001)) (List.mem_of_getElem? (i := 4) rfl)
  have f54 := hts (.fieldLink RX7 54 "OrphanChain" "path" "LOrphanChain$Path;") (List.mem_of_getElem? (i := 5) rfl)
  have k104 := hts (.constant RX7 104 (-100009)) (List.mem_of_getElem? (i := 6) rfl)
  obtain ⟨hR, hW, hs0, hs1⟩ := id hF
  have hn60 := hW.n60
  have hb10 := hW.b10
  have hs8 := hW.s8
  have hhn := hW.hn
  have hcl := cntF_le (loudB s) (nB s)
  have hdl := dep_le hW _ hhn
  have htl := hT.1
  refine lv_aload_n hx hb dX7_check_0 rfl (lv_at hl 0 rfl) ?_
  refine va_get (D := dg) (ci := 7) (v := .ref xp) (C := RX7) (T := TX7) (N := 7) hx hb hts in7 hown hK hP 0 rfl rfl 3 (by decide) f33 (fun _ h9 => h9) rfl dX7_check_1 ?_
  refine lv_aload_n hx hb dX7_check_4 rfl (lv_at hl 0 rfl) ?_
  refine va_get (D := dg) (ci := 7) (v := .ref xt) (C := RX7) (T := TX7) (N := 7) hx hb hts in7 hown hK hP 0 rfl rfl 2 (by decide) f26 (fun _ h9 => h9) rfl dX7_check_5 ?_
  refine call_w (wr := [(x0, .inr (7, [.ref xl, .ref xh, .ref xt, .ref xp, .ref xo, .ref xu, .ref xw])), (xl, .inr (1, [.ref xlc])), (xlc, .inl (tq.1, 1473, .inl c)), (xw, .inr (3, [.ref xwe, .int wl])), (xwe, .inl (tq.1, 60, .inl wf))]) (va_runV (As := [.ref xt]) (rest := []) ⟨hx, hb, hml, hown, hts⟩ (kX4_parse ln dg tq (p0 := xp) (p1 := xpn) (xs := xs) (nb := nb) (t0 := xt) (t1 := xtc) (tl := tl) (tx := tx) (hT := hT) H.size) (cwV 1 hts gX7_check_X4_parse rfl rfl rfl hdX4_parse ⟨Nat.le_of_ble_eq_true rfl, Nat.le_of_ble_eq_true rfl⟩) (preVB hK hN hP hD [5, 6, 3, 4] rfl rfl rfl 5 rfl rfl [.ref xt]) rfl rfl hl.1 rfl (lv_room (Nat.le_of_ble_eq_true rfl)) dX7_check_8 ⟨Nat.le_refl _, Nat.le_refl _⟩) hP hD hS hA [5, 6, 3, 4] [0, 1, 2, 7, 8] rfl rfl (by decide) (by decide) (fun r8 u8 H locs hw8 hP hD hS => ?_)
  obtain ⟨sz8, g8⟩ := u8
  have hP : va_P dg vwCl [(x0, .inr (7, [.ref xl, .ref xh, .ref xt, .ref xp, .ref xo, .ref xu, .ref xw])), (xl, .inr (1, [.ref xlc])), (xlc, .inl (tq.1, 1473, .inl c)), (xw, .inr (3, [.ref xwe, .int wl])), (xwe, .inl (tq.1, 60, .inl wf)), (xp, .inr (4, [.ref xpn, .int (nI sz8)])), (xpn, .inl (tq.1, 100, .inl g8)), (xt, .inr (6, [.ref xtc, .int (nI tl)])), (xtc, .inl (tq.1, 100, .inl tx))] H := hP
  have hD : va_D AA [(x0, .inr (7, [.ref xl, .ref xh, .ref xt, .ref xp, .ref xo, .ref xu, .ref xw])), (xl, .inr (1, [.ref xlc])), (xlc, .inl (tq.1, 1473, .inl c)), (xw, .inr (3, [.ref xwe, .int wl])), (xwe, .inl (tq.1, 60, .inl wf)), (xp, .inr (4, [.ref xpn, .int (nI sz8)])), (xpn, .inl (tq.1, 100, .inl g8)), (xt, .inr (6, [.ref xtc, .int (nI tl)])), (xtc, .inl (tq.1, 100, .inl tx))] := hD
  obtain ⟨hr8, hw8⟩ := hw8
  subst hr8
  refine lv_istore_n (lv' := [(1, .int (prF tx tl 0 0 0 0)), (0, .ref x0)]) hx hb dX7_check_11 rfl hl (by decide) rfl (fun ls hl => ?_)
  refine lv_iload_n hx hb dX7_check_12 rfl (lv_at hl 0 rfl) ?_
  refine lv_iconst (v := (iI (-1))) hx hb dX7_check_13 (by decide) ?_
  refine r_icmp_eq (tgt := 23) hx hb rfl (iI_toInt (by omega) (by omega)) dX7_check_14 (by decide) (fun c14 => ?_) (fun c14 => ?_)
  · skip
    have c14 : p0 tx tl = iI (-1) := i32_eq c14
    obtain ⟨hz1, hz2⟩ := hw8
    obtain ⟨hz1, hz3⟩ := hz1 c14
    have hz1 : sz8 = pS tx tl := hz1
    have hz3 : ∀ x, x < sz8 → g8 x = nI (pN tx tl x) := hz3
    have hz2 : sz8 ≤ 51 := hz2
    have hz4 : 1 ≤ pS tx tl := prS_pos _ _ _ _ _ _
    have hp0 := pN_lt hT 0
    refine lv_aload_n hx hb dX7_check_23 rfl (lv_at hl 1 rfl) ?_
    refine va_get (D := dg) (ci := 7) (v := .ref xp) (C := RX7) (T := TX7) (N := 7) hx hb hts in7 hown hK hP 0 rfl rfl 3 (by decide) f33 (fun _ h9 => h9) rfl dX7_check_24 ?_
    refine call_x (va_runV (As := []) (rest := []) ⟨hx, hb, hml, hown, hts⟩ (kX4_startEntry ln dg tq (p0 := xp) (p1 := xpn) (sz := sz8) (nb := g8) (hsz := (by omega)) (hsz2 := (by omega)) H.size) (cwV 0 hts gX7_check_X4_startEntry rfl rfl rfl hdX4_startEntry ⟨Nat.le_of_ble_eq_true rfl, Nat.le_of_ble_eq_true rfl⟩) (preVR hK hN hP [5, 6] rfl 5 rfl rfl []) rfl rfl hl.1 rfl (lv_room (Nat.le_of_ble_eq_true rfl)) dX7_check_27 ⟨Nat.le_refl _, Nat.le_refl _⟩) hP hS hA (fun H locs hP hS => ?_)
    refine r_top (show (g8 0) = (nI (pN tx tl 0)) from hz3 0 (by omega)) ?_
    refine lv_istore_n (lv' := [(2, .int (nI (pN tx tl 0))), (1, .int (prF tx tl 0 0 0 0)), (0, .ref x0)]) hx hb dX7_check_30 rfl hl (by decide) rfl (fun ls hl => ?_)
    refine lv_aload_n hx hb dX7_check_31 rfl (lv_at hl 2 rfl) ?_
    refine va_get (D := dg) (ci := 7) (v := .ref xl) (C := RX7) (T := TX7) (N := 7) hx hb hts in7 hown hK hP 0 rfl rfl 0 (by decide) f12 (fun _ h9 => h9) rfl dX7_check_32 ?_
    refine lv_iload_n hx hb dX7_check_35 rfl (lv_at hl 0 rfl) ?_
    refine call_x (va_runV (As := [.int (nI (pN tx tl 0))]) (rest := []) ⟨hx, hb, hml, hown, hts⟩ (kX1_hasEntry ln dg tq (h0 := xl) (h1 := xlc) (c := c) (s := s) (hR := (by omega)) (hW := (by omega)) (x := (nI (pN tx tl 0))) H.size) (cwV 1 hts gX7_check_X1_hasEntry rfl rfl rfl hdX1_hasEntry ⟨Nat.le_of_ble_eq_true rfl, Nat.le_of_ble_eq_true rfl⟩) (preVR hK hN hP [1, 2] rfl 1 rfl rfl [.int (nI (pN tx tl 0))]) rfl rfl hl.1 rfl (lv_room (Nat.le_of_ble_eq_true rfl)) dX7_check_36 ⟨Nat.le_refl _, Nat.le_refl _⟩) hP hS hA (fun H locs hP hS => ?_)
    refine r_top (show (bI (hasN (nI (pN tx tl 0)) (nE s))) = (bI (hasN (nI (pN tx tl 0)) (nE s))) from rfl) ?_
    refine r_if_eq_b (tgt := 61) hx hb dX7_check_39 (by decide) (fun c39 => ?_) (fun c39 => ?_)
    · skip
      refine lv_ldc hx hb hown k65 dX7_check_61 ?_
      exact hret (-100001) (sz8, g8, wl, wf) H locs _ ls (show (-100001) = (ckR s tx tl) from (by unfold ckR; rw [if_pos c14, if_neg (fun z => by rw [c39] at z; cases z.1)])) rfl (hP.sub [0, 1, 2, 7, 8, 5, 6, 3, 4] rfl) (hD.sub [0, 1, 2, 7, 8, 5, 6, 3, 4] (by decide) rfl) hS dX7_check_63
    · skip
      have hp1 : pN tx tl 0 < nE s := (by obtain ⟨k, hk, hke⟩ := hasN_t c39; have := congrArg Int32.toInt hke; rw [nI_tI (by omega), nI_tI (by omega)] at this; omega)
      refine lv_aload_n hx hb dX7_check_42 rfl (lv_at hl 2 rfl) ?_
      refine va_get (D := dg) (ci := 7) (v := .ref xl) (C := RX7) (T := TX7) (N := 7) hx hb hts in7 hown hK hP 0 rfl rfl 0 (by decide) f12 (fun _ h9 => h9) rfl dX7_check_43 ?_
      refine lv_iload_n hx hb dX7_check_46 rfl (lv_at hl 0 rfl) ?_
      refine lv_aload_n hx hb dX7_check_47 rfl (lv_at hl 2 rfl) ?_
      refine va_get (D := dg) (ci := 7) (v := .ref xl) (C := RX7) (T := TX7) (N := 7) hx hb hts in7 hown hK hP 0 rfl rfl 0 (by decide) f12 (fun _ h9 => h9) rfl dX7_check_48 ?_
      refine lv_iconst (v := (nI 1)) hx hb dX7_check_51 (by decide) ?_
      refine call_x (va_runV (As := [.int (nI 1)]) (rest := [.int (nI (pN tx tl 0)), .ref xl]) ⟨hx, hb, hml, hown, hts⟩ (kX1_number ln dg tq (h0 := xl) (h1 := xlc) (c := c) (k := 1) (hk := (by omega)) H.size) (cwV 1 hts gX7_check_X1_number rfl rfl rfl hdX1_number ⟨Nat.le_of_ble_eq_true rfl, Nat.le_of_ble_eq_true rfl⟩) (preVR hK hN hP [1, 2] rfl 1 rfl rfl [.int (nI 1)]) rfl rfl hl.1 rfl (lv_room (Nat.le_of_ble_eq_true rfl)) dX7_check_52 ⟨Nat.le_refl _, Nat.le_refl _⟩) hP hS hA (fun H locs hP hS => ?_)
      refine r_top (show (c 1) = (nI (hE s)) from (hR.hh hW)) ?_
      refine call_x (va_runV (As := [.int (nI (pN tx tl 0)), .int (nI (hE s))]) (rest := []) ⟨hx, hb, hml, hown, hts⟩ (kX1_isOnPath ln dg tq (h0 := xl) (h1 := xlc) (c := c) (s := s) (hR := (by omega)) (hW := (by omega)) (x := pN tx tl 0) (y := hE s) (hx := (by omega)) (hy := (by omega)) H.size) (cwV 2 hts gX7_check_X1_isOnPath rfl rfl rfl hdX1_isOnPath ⟨Nat.le_of_ble_eq_true rfl, Nat.le_of_ble_eq_true rfl⟩) (preVR hK hN hP [1, 2] rfl 1 rfl rfl [.int (nI (pN tx tl 0)), .int (nI (hE s))]) rfl rfl hl.1 rfl (lv_room (Nat.le_of_ble_eq_true rfl)) dX7_check_55 ⟨Nat.le_refl _, Nat.le_refl _⟩) hP hS hA (fun H locs hP hS => ?_)
      refine r_if_ne_b (tgt := 64) hx hb dX7_check_58 (by decide) (fun c58 => ?_) (fun c58 => ?_)
      · skip
        refine lv_aload_n hx hb dX7_check_64 rfl (lv_at hl 2 rfl) ?_
        refine call_v (wr := [(xp, .inr (4, [.ref xpn, .int (nI sz8)])), (xpn, .inl (tq.1, 100, .inl g8)), (xt, .inr (6, [.ref xtc, .int (nI tl)])), (xtc, .inl (tq.1, 100, .inl tx))]) (va_runV (As := []) (rest := []) ⟨hx, hb, hml, hown, hts⟩ (kX7_traceChain ln dg tq (x0 := x0) (xl := xl) (xh := xh) (xt := xt) (xp := xp) (xo := xo) (xu := xu) (xw := xw) (xlc := xlc) (c := c) (s := s) (hF := hF) (xwe := xwe) (wl := wl) (wf := wf) H.size) (cwV 0 hts gX7_check_X7_traceChain rfl rfl rfl hdX7_traceChain ⟨Nat.le_of_ble_eq_true rfl, Nat.le_of_ble_eq_true rfl⟩) (preVB hK hN hP hD [0, 1, 2, 3, 4] rfl rfl rfl 0 rfl rfl []) rfl rfl hl.1 rfl (lv_room (Nat.le_of_ble_eq_true rfl)) dX7_check_65 ⟨Nat.le_refl _, Nat.le_refl _⟩) hP hD hS hA [0, 1, 2, 3, 4] [5, 6, 7, 8] rfl rfl (by decide) (by decide) (fun u65 H locs hw65 hP hD hS => ?_)
        obtain ⟨wf265, rfl⟩ : ∃ z, z = u65 := ⟨_, rfl⟩
        have hP : va_P dg vwCl [(xp, .inr (4, [.ref xpn, .int (nI sz8)])), (xpn, .inl (tq.1, 100, .inl g8)), (xt, .inr (6, [.ref xtc, .int (nI tl)])), (xtc, .inl (tq.1, 100, .inl tx)), (x0, .inr (7, [.ref xl, .ref xh, .ref xt, .ref xp, .ref xo, .ref xu, .ref xw])), (xl, .inr (1, [.ref xlc])), (xlc, .inl (tq.1, 1473, .inl c)), (xw, .inr (3, [.ref xwe, .int (nI (dep s (hE s)))])), (xwe, .inl (tq.1, 60, .inl wf265))] H := hP
        have hD : va_D AA [(xp, .inr (4, [.ref xpn, .int (nI sz8)])), (xpn, .inl (tq.1, 100, .inl g8)), (xt, .inr (6, [.ref xtc, .int (nI tl)])), (xtc, .inl (tq.1, 100, .inl tx)), (x0, .inr (7, [.ref xl, .ref xh, .ref xt, .ref xp, .ref xo, .ref xu, .ref xw])), (xl, .inr (1, [.ref xlc])), (xlc, .inl (tq.1, 1473, .inl c)), (xw, .inr (3, [.ref xwe, .int (nI (dep s (hE s)))])), (xwe, .inl (tq.1, 60, .inl wf265))] := hD
        have hd1 := dep_ge1 s (pN tx tl 0)
        obtain ⟨hd2, hd3, hd4⟩ := dep_on hW hhn c58
        refine lv_aload_n hx hb dX7_check_68 rfl (lv_at hl 2 rfl) ?_
        refine va_get (D := dg) (ci := 7) (v := .ref xl) (C := RX7) (T := TX7) (N := 7) hx hb hts in7 hown hK hP 4 rfl rfl 0 (by decide) f12 (fun _ h9 => h9) rfl dX7_check_69 ?_
        refine lv_iload_n hx hb dX7_check_72 rfl (lv_at hl 0 rfl) ?_
        refine call_x (va_runV (As := [.int (nI (pN tx tl 0))]) (rest := []) ⟨hx, hb, hml, hown, hts⟩ (kX1_pathLength ln dg tq (h0 := xl) (h1 := xlc) (c := c) (s := s) (hR := (by omega)) (hW := (by omega)) (y := pN tx tl 0) (hy := (by omega)) H.size) (cwV 1 hts gX7_check_X1_pathLength rfl rfl rfl hdX1_pathLength ⟨Nat.le_of_ble_eq_true rfl, Nat.le_of_ble_eq_true rfl⟩) (preVR hK hN hP [5, 6] rfl 5 rfl rfl [.int (nI (pN tx tl 0))]) rfl rfl hl.1 rfl (lv_room (Nat.le_of_ble_eq_true rfl)) dX7_check_73 ⟨Nat.le_refl _, Nat.le_refl _⟩) hP hS hA (fun H locs hP hS => ?_)
        refine lv_iconst (v := (nI 1)) hx hb dX7_check_76 (by decide) ?_
        refine r_isub_n hx hb (by omega) dX7_check_77 ?_
        refine lv_istore_n (lv' := [(3, .int (nI ((dep s (pN tx tl 0)) - 1))), (2, .int (nI (pN tx tl 0))), (1, .int (prF tx tl 0 0 0 0)), (0, .ref x0)]) hx hb dX7_check_78 rfl hl (by decide) rfl (fun ls hl => ?_)
        refine lv_iconst (v := (nI 0)) hx hb dX7_check_79 (by decide) ?_
        refine lv_istore (lv' := [(4, .int (nI 0)), (3, .int (nI ((dep s (pN tx tl 0)) - 1))), (2, .int (nI (pN tx tl 0))), (1, .int (prF tx tl 0 0 0 0)), (0, .ref x0)]) hx hb dX7_check_80 hl (by decide) rfl (fun ls hl => ?_)
        have loop82 : ∀ (fu : Nat) (t_ : Nat) (H : Heap) (locs : List Loc) (ls : Array Slot), (t_ ≤ pS tx tl - 1 ∧ ckL s tx tl 0 (pS tx tl - 1) = ckL s tx tl t_ (pS tx tl - 1 - t_)) → pS tx tl - 1 - t_ < fu → va_P dg vwCl [(x0, .inr (7, [.ref xl, .ref xh, .ref xt, .ref xp, .ref xo, .ref xu, .ref xw])), (xl, .inr (1, [.ref xlc])), (xlc, .inl (tq.1, 1473, .inl c)), (xt, .inr (6, [.ref xtc, .int (nI tl)])), (xtc, .inl (tq.1, 100, .inl tx)), (xp, .inr (4, [.ref xpn, .int (nI sz8)])), (xpn, .inl (tq.1, 100, .inl g8)), (xw, .inr (3, [.ref xwe, .int (nI (dep s (hE s)))])), (xwe, .inl (tq.1, 60, .inl wf265))] H → va_D AA [(x0, .inr (7, [.ref xl, .ref xh, .ref xt, .ref xp, .ref xo, .ref xu, .ref xw])), (xl, .inr (1, [.ref xlc])), (xlc, .inl (tq.1, 1473, .inl c)), (xt, .inr (6, [.ref xtc, .int (nI tl)])), (xtc, .inl (tq.1, 100, .inl tx)), (xp, .inr (4, [.ref xpn, .int (nI sz8)])), (xpn, .inl (tq.1, 100, .inl g8)), (xw, .inr (3, [.ref xwe, .int (nI (dep s (hE s)))])), (xwe, .inl (tq.1, 60, .inl wf265))] → va_S AA sS.heap H locs → lv_has ls 6 [(0, .ref x0), (3, .int (nI (dep s (pN tx tl 0) - 1))), (4, .int (nI t_))] → W pP ln eE (rmm 3 70) sS mM aA bB mT cC H locs 0 0 QQ (F0 mM 82 ls []) := by
          intro fu
          induction fu with
          | zero => intro t_ H locs ls _ hm; exact absurd hm (Nat.not_lt_zero _)
          | succ fu ih82 =>
            intro t_ H locs ls hinv hm hP hD hS hl
            obtain ⟨hi1, hi2⟩ := hinv
            refine lv_iload hx hb dX7_check_82 (lv_at hl 2 rfl) ?_
            refine lv_aload_n hx hb dX7_check_84 rfl (lv_at hl 0 rfl) ?_
            refine va_get (D := dg) (ci := 7) (v := .ref xp) (C := RX7) (T := TX7) (N := 7) hx hb hts in7 hown hK hP 0 rfl rfl 3 (by decide) f33 (fun _ h9 => h9) rfl dX7_check_85 ?_
            refine call_x (va_runV (As := []) (rest := [.int (nI t_)]) ⟨hx, hb, hml, hown, hts⟩ (kX4_links ln dg tq (p0 := xp) (p1 := xpn) (sz := sz8) (nb := g8) (hsz := (by omega)) H.size) (cwV 0 hts gX7_check_X4_links rfl rfl rfl hdX4_links ⟨Nat.le_of_ble_eq_true rfl, Nat.le_of_ble_eq_true rfl⟩) (preVR hK hN hP [5, 6] rfl 5 rfl rfl []) rfl rfl hl.1 rfl (lv_room (Nat.le_of_ble_eq_true rfl)) dX7_check_88 ⟨Nat.le_refl _, Nat.le_refl _⟩) hP hS hA (fun H locs hP hS => ?_)
            refine r_icmp_ge (tgt := 147) hx hb (nI_tI (by omega)) (nI_tI (by omega)) dX7_check_91 (by decide) (fun c91 => ?_) (fun c91 => ?_)
            · skip
              refine lv_aload_n hx hb dX7_check_147 rfl (lv_at hl 0 rfl) ?_
              refine va_get (D := dg) (ci := 7) (v := .ref xp) (C := RX7) (T := TX7) (N := 7) hx hb hts in7 hown hK hP 0 rfl rfl 3 (by decide) f33 (fun _ h9 => h9) rfl dX7_check_148 ?_
              refine call_x (va_runV (As := []) (rest := []) ⟨hx, hb, hml, hown, hts⟩ (kX4_links ln dg tq (p0 := xp) (p1 := xpn) (sz := sz8) (nb := g8) (hsz := (by omega)) H.size) (cwV 0 hts gX7_check_X4_links rfl rfl rfl hdX4_links ⟨Nat.le_of_ble_eq_true rfl, Nat.le_of_ble_eq_true rfl⟩) (preVR hK hN hP [5, 6] rfl 5 rfl rfl []) rfl rfl hl.1 rfl (lv_room (Nat.le_of_ble_eq_true rfl)) dX7_check_151 ⟨Nat.le_refl _, Nat.le_refl _⟩) hP hS hA (fun H locs hP hS => ?_)
              exact hret (nI (sz8 - 1)) (sz8, g8, (nI (dep s (hE s))), wf265) H locs _ ls (show (nI (sz8 - 1)) = (ckR s tx tl) from (by unfold ckR; rw [if_pos c14, if_pos ⟨c39, c58⟩, hi2, show pS tx tl - 1 - t_ = 0 by omega, ckL]; congr 1; omega)) rfl (hP.sub [0, 1, 2, 3, 4, 5, 6, 7, 8] rfl) (hD.sub [0, 1, 2, 3, 4, 5, 6, 7, 8] (by decide) rfl) hS dX7_check_154
            · skip
              by_cases hpl : dep s (pN tx tl 0) - 1 + t_ < dep s (hE s)
              · skip
                refine lv_aload_n hx hb dX7_check_94 rfl (lv_at hl 0 rfl) ?_
                refine va_get (D := dg) (ci := 7) (v := .ref xw) (C := RX7) (T := TX7) (N := 7) hx hb hts in7 hown hK hP 0 rfl rfl 6 (by decide) f54 (fun _ h9 => h9) rfl dX7_check_95 ?_
                refine lv_iload_n hx hb dX7_check_98 rfl (lv_at hl 1 rfl) ?_
                refine lv_iload hx hb dX7_check_99 (lv_at hl 2 rfl) ?_
                refine r_iadd_n hx hb dX7_check_101 ?_
                refine call_x (va_runV (As := [.int (nI ((dep s (pN tx tl 0) - 1) + t_))]) (rest := []) ⟨hx, hb, hml, hown, hts⟩ (kX3_at ln dg tq (w0 := xw) (w1 := xwe) (len := dep s (hE s)) (pc := wf265) (k := (dep s (pN tx tl 0) - 1) + t_) (hk := (by omega)) (hlen := (by omega)) H.size) (cwV 1 hts gX7_check_X3_at rfl rfl rfl hdX3_at ⟨Nat.le_of_ble_eq_true rfl, Nat.le_of_ble_eq_true rfl⟩) (preVR hK hN hP [7, 8] rfl 7 rfl rfl [.int (nI ((dep s (pN tx tl 0) - 1) + t_))]) rfl rfl hl.1 rfl (lv_room (Nat.le_of_ble_eq_true rfl)) dX7_check_102 ⟨Nat.le_refl _, Nat.le_refl _⟩) hP hS hA (fun H locs hP hS => ?_)
                refine r_top (show (wf265 ((dep s (pN tx tl 0) - 1) + t_)) = (nI (cE s (dep s (pN tx tl 0) - 1 + t_))) from hw65 _ hpl) ?_
                have hcE := cE_in hW hpl
                have hpt := pN_lt hT (t_ + 1)
                refine lv_istore (lv' := [(5, .int (nI (cE s (dep s (pN tx tl 0) - 1 + t_)))), (0, .ref x0), (3, .int (nI (dep s (pN tx tl 0) - 1))), (4, .int (nI t_))]) hx hb dX7_check_105 hl (by decide) rfl (fun ls hl => ?_)
                refine lv_iload hx hb dX7_check_107 (lv_at hl 0 rfl) ?_
                refine lv_ldc hx hb hown k104 dX7_check_109 ?_
                refine r_icmp_eq (tgt := 136) hx hb (nI_tI (by omega)) (by decide : ((-100009) : Int32).toInt = (-100009)) dX7_check_111 (by decide) (fun c111 => False.elim (by omega)) (fun c111 => ?_)
                refine lv_aload_n hx hb dX7_check_114 rfl (lv_at hl 1 rfl) ?_
                refine va_get (D := dg) (ci := 7) (v := .ref xl) (C := RX7) (T := TX7) (N := 7) hx hb hts in7 hown hK hP 0 rfl rfl 0 (by decide) f12 (fun _ h9 => h9) rfl dX7_check_115 ?_
                refine lv_iload hx hb dX7_check_118 (lv_at hl 0 rfl) ?_
                refine lv_iconst (v := (nI 5)) hx hb dX7_check_120 (by decide) ?_
                refine call_x (va_runV (As := [.int (nI (cE s (dep s (pN tx tl 0) - 1 + t_))), .int (nI 5)]) (rest := []) ⟨hx, hb, hml, hown, hts⟩ (kX1_ofEntry ln dg tq (h0 := xl) (h1 := xlc) (c := c) (e := cE s (dep s (pN tx tl 0) - 1 + t_)) (f := 5) (he := (by omega)) (hf := (by omega)) H.size) (cwV 2 hts gX7_check_X1_ofEntry rfl rfl rfl hdX1_ofEntry ⟨Nat.le_of_ble_eq_true rfl, Nat.le_of_ble_eq_true rfl⟩) (preVR hK hN hP [1, 2] rfl 1 rfl rfl [.int (nI (cE s (dep s (pN tx tl 0) - 1 + t_))), .int (nI 5)]) rfl rfl hl.1 rfl (lv_room (Nat.le_of_ble_eq_true rfl)) dX7_check_121 ⟨Nat.le_refl _, Nat.le_refl _⟩) hP hS hA (fun H locs hP hS => ?_)
                refine r_top (show (c (5 + (cE s (dep s (pN tx tl 0) - 1 + t_)) * 7 + 5)) = (me s (cE s (dep s (pN tx tl 0) - 1 + t_)) 5) from hR.l (by omega)) ?_
                refine lv_aload_n hx hb dX7_check_124 rfl (lv_at hl 1 rfl) ?_
                refine va_get (D := dg) (ci := 7) (v := .ref xp) (C := RX7) (T := TX7) (N := 7) hx hb hts in7 hown hK hP 0 rfl rfl 3 (by decide) f33 (fun _ h9 => h9) rfl dX7_check_125 ?_
                refine lv_iload hx hb dX7_check_128 (lv_at hl 3 rfl) ?_
                refine call_x (va_runV (As := [.int (nI t_)]) (rest := [.int (me s (cE s (dep s (pN tx tl 0) - 1 + t_)) 5)]) ⟨hx, hb, hml, hown, hts⟩ (kX4_link ln dg tq (p0 := xp) (p1 := xpn) (sz := sz8) (nb := g8) (k := t_) (hk := (by omega)) (hsz := (by omega)) H.size) (cwV 1 hts gX7_check_X4_link rfl rfl rfl hdX4_link ⟨Nat.le_of_ble_eq_true rfl, Nat.le_of_ble_eq_true rfl⟩) (preVR hK hN hP [5, 6] rfl 5 rfl rfl [.int (nI t_)]) rfl rfl hl.1 rfl (lv_room (Nat.le_of_ble_eq_true rfl)) dX7_check_130 ⟨Nat.le_refl _, Nat.le_refl _⟩) hP hS hA (fun H locs hP hS => ?_)
                refine r_top (show (g8 (t_ + 1)) = (nI (pN tx tl (t_ + 1))) from hz3 _ (by omega)) ?_
                refine r_icmp_eq (tgt := 141) hx hb rfl (nI_tI (by omega)) dX7_check_133 (by decide) (fun c133 => ?_) (fun c133 => ?_)
                · skip
                  refine lv_iinc (v := (nI (t_ + 1))) (lv' := [(4, .int (nI (t_ + 1))), (5, .int (nI (cE s (dep s (pN tx tl 0) - 1 + t_)))), (0, .ref x0), (3, .int (nI (dep s (pN tx tl 0) - 1)))]) hx hb dX7_check_141 hl (k := 3) rfl (nI_add _ _) (by decide) rfl (fun ls hl => ?_)
                  refine lv_goto (tgt := 82) hx hb dX7_check_144 (by decide) ?_
                  exact ih82 (t_ + 1) H locs ls (⟨by omega, by rw [hi2, show pS tx tl - 1 - t_ = (pS tx tl - 1 - (t_ + 1)) + 1 by omega, ckL, if_pos (by unfold ckB; rw [decide_eq_true hpl, decide_eq_true (i32_eq (c133.trans (nI_tI (by omega)).symm))]; rfl)]⟩) (by omega) (hP.sub [0, 1, 2, 3, 4, 5, 6, 7, 8] rfl) (hD.sub [0, 1, 2, 3, 4, 5, 6, 7, 8] (by decide) rfl) hS (lv_sub hl [2, 3, 0] rfl)
                · skip
                  refine lv_iconst (v := (iI (-1))) hx hb dX7_check_136 (by decide) ?_
                  refine lv_iload hx hb dX7_check_137 (lv_at hl 3 rfl) ?_
                  refine r_isub_z hx hb rfl (nI_iI _) dX7_check_139 ?_
                  exact hret (iI ((-1) - ((t_ : Nat) : Int))) (sz8, g8, (nI (dep s (hE s))), wf265) H locs _ ls (show (iI ((-1) - ((t_ : Nat) : Int))) = (ckR s tx tl) from (by unfold ckR; rw [if_pos c14, if_pos ⟨c39, c58⟩, hi2, show pS tx tl - 1 - t_ = (pS tx tl - 1 - (t_ + 1)) + 1 by omega, ckL, if_neg (by unfold ckB; rw [decide_eq_true hpl, decide_eq_false (fun z => c133 (by rw [z]; exact nI_tI (by omega)))]; simp)])) rfl (hP.sub [0, 1, 2, 3, 4, 5, 6, 7, 8] rfl) (hD.sub [0, 1, 2, 3, 4, 5, 6, 7, 8] (by decide) rfl) hS dX7_check_140
              · skip
                refine lv_aload_n hx hb dX7_check_94 rfl (lv_at hl 0 rfl) ?_
                refine va_get (D := dg) (ci := 7) (v := .ref xw) (C := RX7) (T := TX7) (N := 7) hx hb hts in7 hown hK hP 0 rfl rfl 6 (by decide) f54 (fun _ h9 => h9) rfl dX7_check_95 ?_
                refine lv_iload_n hx hb dX7_check_98 rfl (lv_at hl 1 rfl) ?_
                refine lv_iload hx hb dX7_check_99 (lv_at hl 2 rfl) ?_
                refine r_iadd_n hx hb dX7_check_101 ?_
                refine call_x (va_runV (As := [.int (nI ((dep s (pN tx tl 0) - 1) + t_))]) (rest := []) ⟨hx, hb, hml, hown, hts⟩ (kX3_at__r ln dg tq (w0 := xw) (w1 := xwe) (len := dep s (hE s)) (pc := wf265) (x := (nI ((dep s (pN tx tl 0) - 1) + t_))) (hlen := (by omega)) H.size) (cwV 1 hts gX7_check_X3_at rfl rfl rfl hdX3_at ⟨Nat.le_of_ble_eq_true rfl, Nat.le_of_ble_eq_true rfl⟩) (preVR hK hN hP [7, 8] rfl 7 rfl rfl [.int (nI ((dep s (pN tx tl 0) - 1) + t_))]) rfl rfl hl.1 rfl (lv_room (Nat.le_of_ble_eq_true rfl)) dX7_check_102 ⟨Nat.le_refl _, Nat.le_refl _⟩) hP hS hA (fun H locs hP hS => ?_)
                refine r_top (show (if hasN (nI ((dep s (pN tx tl 0) - 1) + t_)) (dep s (hE s)) = true then wf265 (nI ((dep s (pN tx tl 0) - 1) + t_)).toNatClampNeg else -100009) = (-100009) from by rw [if_neg (fun z => hpl (by have z := of_decide_eq_true z; rw [nI_tI (by omega)] at z; omega))]) ?_
                refine lv_istore (lv' := [(5, .int (-100009)), (0, .ref x0), (3, .int (nI (dep s (pN tx tl 0) - 1))), (4, .int (nI t_))]) hx hb dX7_check_105 hl (by decide) rfl (fun ls hl => ?_)
                refine lv_iload hx hb dX7_check_107 (lv_at hl 0 rfl) ?_
                refine lv_ldc hx hb hown k104 dX7_check_109 ?_
                refine r_icmp_eq (tgt := 136) hx hb (by decide : ((-100009) : Int32).toInt = (-100009)) (by decide : ((-100009) : Int32).toInt = (-100009)) dX7_check_111 (by decide) (fun c111 => ?_) (fun c111 => False.elim (by omega))
                refine lv_iconst (v := (iI (-1))) hx hb dX7_check_136 (by decide) ?_
                refine lv_iload hx hb dX7_check_137 (lv_at hl 3 rfl) ?_
                refine r_isub_z hx hb rfl (nI_iI _) dX7_check_139 ?_
                exact hret (iI ((-1) - ((t_ : Nat) : Int))) (sz8, g8, (nI (dep s (hE s))), wf265) H locs _ ls (show (iI ((-1) - ((t_ : Nat) : Int))) = (ckR s tx tl) from (by unfold ckR; rw [if_pos c14, if_pos ⟨c39, c58⟩, hi2, show pS tx tl - 1 - t_ = (pS tx tl - 1 - (t_ + 1)) + 1 by omega, ckL, if_neg (by unfold ckB; rw [decide_eq_false hpl]; simp)])) rfl (hP.sub [0, 1, 2, 3, 4, 5, 6, 7, 8] rfl) (hD.sub [0, 1, 2, 3, 4, 5, 6, 7, 8] (by decide) rfl) hS dX7_check_140
        exact loop82 _ 0 H locs ls (⟨by omega, rfl⟩) (Nat.lt_succ_self _) (hP.sub [4, 5, 6, 2, 3, 0, 1, 7, 8] rfl) (hD.sub [4, 5, 6, 2, 3, 0, 1, 7, 8] (by decide) rfl) hS (lv_sub hl [4, 1, 0] rfl)
      · skip
        refine lv_ldc hx hb hown k65 dX7_check_61 ?_
        exact hret (-100001) (sz8, g8, wl, wf) H locs _ ls (show (-100001) = (ckR s tx tl) from (by unfold ckR; rw [if_pos c14, if_neg (fun z => by rw [c58] at z; cases z.2)])) rfl (hP.sub [0, 1, 2, 7, 8, 5, 6, 3, 4] rfl) (hD.sub [0, 1, 2, 7, 8, 5, 6, 3, 4] (by decide) rfl) hS dX7_check_63
  · skip
    refine lv_sipush (v := (iI (-1000))) hx hb dX7_check_17 (by decide) ?_
    refine lv_iload_n hx hb dX7_check_20 rfl (lv_at hl 0 rfl) ?_
    refine lv_isub hx hb dX7_check_21 ?_
    exact hret ((iI (-1000)) - (prF tx tl 0 0 0 0)) (sz8, g8, wl, wf) H locs _ ls (show ((iI (-1000)) - (prF tx tl 0 0 0 0)) = (ckR s tx tl) from (by unfold ckR; rw [if_neg (show ¬ p0 tx tl = iI (-1) from fun z => c14 (by rw [show prF tx tl 0 0 0 0 = iI (-1) from z]; rfl))]; rfl)) rfl (hP.sub [0, 1, 2, 7, 8, 5, 6, 3, 4] rfl) (hD.sub [0, 1, 2, 7, 8, 5, 6, 3, 4] (by decide) rfl) hS dX7_check_22
