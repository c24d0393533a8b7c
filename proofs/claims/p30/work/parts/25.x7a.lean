theorem hdX7_write : yX7_write.cls = RX7 ∧ yX7_write.cls ≠ "java/lang/invoke/MethodHandle" ∧ yX7_write.cls ≠ "java/lang/invoke/VarHandle" ∧ (parseMethodDescriptor yX7_write.desc).map (fun d => d.parameters.length) = some 4 := by decide +kernel
set_option maxHeartbeats 4000000 in
set_option maxRecDepth 100000 in
theorem kX7_write (ln : Launch) (dg : va_G) (tq : ClassId × ClassId) (x0 xl xh xt xp xo xu xw : Nat)(xlc : Nat) (c : Row) (s : Row) (hF : FS s c)(xhc : Nat) (st nx : Nat) (hc : Row) (hst : st ≤ 5) (hnx : nx < 5)(xus : Nat) (uf : Row) (k f t a : Nat) (hk : k < 1000) (hf : f < 6) (ht : t < 6) (ha : a ≤ 999) (hT : k = 2 ∨ k = 3 → f ≠ t) : MW ln yX7_write wsX7_write (rmm 4 86) dg tq [.ref x0, .int (nI k), .int (nI f), .int (nI t), .int (nI a)] [(x0, .inr (7, [.ref xl, .ref xh, .ref xt, .ref xp, .ref xo, .ref xu, .ref xw])), (xl, .inr (1, [.ref xlc])), (xlc, .inl (tq.1, 1473, .inl c)), (xh, .inr (0, [.ref xhc, .int (nI st), .int (nI nx)])), (xhc, .inl (tq.1, 7365, .inl hc)), (xu, .inr (5, [.ref xus])), (xus, .inl (tq.1, 6, .inl uf))] (fun (r : Int32) (u : Row × Row × Nat × Nat × Row) => r = (wrR s k f a) ∧ (ACT s c hc st nx (wrO s k f a) (wrS s k f t a) u.1 u.2.1 u.2.2.1 u.2.2.2.1)) (fun u => [(x0, .inr (7, [.ref xl, .ref xh, .ref xt, .ref xp, .ref xo, .ref xu, .ref xw])), (xl, .inr (1, [.ref xlc])), (xlc, .inl (tq.1, 1473, .inl u.1)), (xh, .inr (0, [.ref xhc, .int (nI u.2.2.1), .int (nI u.2.2.2.1)])), (xhc, .inl (tq.1, 7365, .inl u.2.1)), (xu, .inr (5, [.ref xus])), (xus, .inl (tq.1, 6, .inl u.2.2.2.2))]) := by
  refine MW.enter cX7_write 5 .int (by decide) rfl rfl (Nat.le_of_ble_eq_true rfl) ?_
  intro pP eE sS mM aA bB mT cC QQ AA hA hAT hret H locs hP hD hS ls hl
  obtain ⟨hx, hb, hml, hown, hts, hK, hN⟩ := hAT
  have hown : sS.vm.findClass RX7 = some mM.cls := hown
  have hl : lv_has ls 5 [(0, .ref x0), (1, .int (nI k)), (2, .int (nI f)), (3, .int (nI t)), (4, .int (nI a))] := hl
  have in7 : ∀ w ∈ u_ws RX7 TX7 7, w ∈ wsX7_write := (fun _ h9 => List.mem_cons_of_mem _ (List.mem_append_left _ (List.mem_append_left _ (List.mem_append_left _ (List.mem_append_right _ h9)))))
  have f12 := hts (.fieldLink RX7 12 "OrphanChain" "ledger" "LOrphanChain$Ledger;") (List.mem_of_getElem? (i := 1) rfl)
  have f47 := hts (.fieldLink RX7 47 "OrphanChain" "purse" "LOrphanChain$Purse;") (List.mem_of_getElem? (i := 3) rfl)
  have f19 := hts (.fieldLink RX7 19 "OrphanChain" "history" "LOrphanChain$History;") (List.mem_of_getElem? (i := 5) rfl)
  have k104 := hts (.constant RX7 104 (-100009)) (List.mem_of_getElem? (i := 6) rfl)
  have k96 := hts (.constant RX7 96 (-100003)) (List.mem_of_getElem? (i := 4) rfl)
  have k80 := hts (.constant RX7 80 (-100002)) (List.mem_of_getElem? (i := 2) rfl)
  obtain ⟨hR, hW, hs0, hs1⟩ := id hF
  have hn60 := hW.n60
  have hb10 := hW.b10
  have hs8 := hW.s8
  have hhn := hW.hn
  have hcl := cntF_le (loudB s) (nB s)
  refine lv_aload_n hx hb dX7_write_0 rfl (lv_at hl 0 rfl) ?_
  refine va_get (D := dg) (ci := 7) (v := .ref xl) (C := RX7) (T := TX7) (N := 7) hx hb hts in7 hown hK hP 0 rfl rfl 0 (by decide) f12 (fun _ h9 => h9) rfl dX7_write_1 ?_
  refine call_x (va_runV (As := []) (rest := []) ⟨hx, hb, hml, hown, hts⟩ (kX1_loudBranches ln dg tq (h0 := xl) (h1 := xlc) (c := c) (s := s) (hR := (by omega)) (hW := (by omega)) H.size) (cwV 0 hts gX7_write_X1_loudBranches rfl rfl rfl hdX1_loudBranches ⟨Nat.le_of_ble_eq_true rfl, Nat.le_of_ble_eq_true rfl⟩) (preVR hK hN hP [1, 2] rfl 1 rfl rfl []) rfl rfl hl.1 rfl (lv_room (Nat.le_of_ble_eq_true rfl)) dX7_write_4 ⟨Nat.le_refl _, Nat.le_refl _⟩) hP hS hA (fun H locs hP hS => ?_)
  refine r_if_le (tgt := 13) hx hb (nI_tI (by omega)) dX7_write_7 (by decide) (fun c7 => ?_) (fun c7 => ?_)
  · skip
    refine lv_aload_n hx hb dX7_write_13 rfl (lv_at hl 0 rfl) ?_
    refine va_get (D := dg) (ci := 7) (v := .ref xu) (C := RX7) (T := TX7) (N := 7) hx hb hts in7 hown hK hP 0 rfl rfl 5 (by decide) f47 (fun _ h9 => h9) rfl dX7_write_14 ?_
    refine lv_aload_n hx hb dX7_write_17 rfl (lv_at hl 0 rfl) ?_
    refine va_get (D := dg) (ci := 7) (v := .ref xl) (C := RX7) (T := TX7) (N := 7) hx hb hts in7 hown hK hP 0 rfl rfl 0 (by decide) f12 (fun _ h9 => h9) rfl dX7_write_18 ?_
    refine lv_aload_n hx hb dX7_write_21 rfl (lv_at hl 0 rfl) ?_
    refine va_get (D := dg) (ci := 7) (v := .ref xl) (C := RX7) (T := TX7) (N := 7) hx hb hts in7 hown hK hP 0 rfl rfl 0 (by decide) f12 (fun _ h9 => h9) rfl dX7_write_22 ?_
    refine lv_iconst (v := (nI 1)) hx hb dX7_write_25 (by decide) ?_
    refine call_x (va_runV (As := [.int (nI 1)]) (rest := [.ref xl, .ref xu]) ⟨hx, hb, hml, hown, hts⟩ (kX1_number ln dg tq (h0 := xl) (h1 := xlc) (c := c) (k := 1) (hk := (by omega)) H.size) (cwV 1 hts gX7_write_X1_number rfl rfl rfl hdX1_number ⟨Nat.le_of_ble_eq_true rfl, Nat.le_of_ble_eq_true rfl⟩) (preVR hK hN hP [1, 2] rfl 1 rfl rfl [.int (nI 1)]) rfl rfl hl.1 rfl (lv_room (Nat.le_of_ble_eq_true rfl)) dX7_write_26 ⟨Nat.le_refl _, Nat.le_refl _⟩) hP hS hA (fun H locs hP hS => ?_)
    refine r_top (show (c 1) = (nI (hE s)) from (hR.hh hW)) ?_
    refine call_v (wr := [(x0, .inr (7, [.ref xl, .ref xh, .ref xt, .ref xp, .ref xo, .ref xu, .ref xw])), (xh, .inr (0, [.ref xhc, .int (nI st), .int (nI nx)])), (xhc, .inl (tq.1, 7365, .inl hc))]) (va_runV (As := [.ref xl, .int (nI (hE s))]) (rest := []) ⟨hx, hb, hml, hown, hts⟩ (kX5_fill ln dg tq (u0 := xu) (u1 := xus) (f := uf) (h0 := xl) (h1 := xlc) (c := c) (s := s) (hR := (by omega)) (hW := (by omega)) (leaf := hE s) (hl0 := (by omega)) H.size) (cwV 2 hts gX7_write_X5_fill rfl rfl rfl hdX5_fill ⟨Nat.le_of_ble_eq_true rfl, Nat.le_of_ble_eq_true rfl⟩) (preVB hK hN hP hD [5, 6, 1, 2] rfl rfl rfl 5 rfl rfl [.ref xl, .int (nI (hE s))]) rfl rfl hl.1 rfl (lv_room (Nat.le_of_ble_eq_true rfl)) dX7_write_29 ⟨Nat.le_refl _, Nat.le_refl _⟩) hP hD hS hA [5, 6, 1, 2] [0, 3, 4] rfl rfl (by decide) (by decide) (fun u29 H locs hw29 hP hD hS => ?_)
    obtain ⟨g29, rfl⟩ : ∃ z, z = u29 := ⟨_, rfl⟩
    have hP : va_P dg vwCl [(x0, .inr (7, [.ref xl, .ref xh, .ref xt, .ref xp, .ref xo, .ref xu, .ref xw])), (xh, .inr (0, [.ref xhc, .int (nI st), .int (nI nx)])), (xhc, .inl (tq.1, 7365, .inl hc)), (xu, .inr (5, [.ref xus])), (xus, .inl (tq.1, 6, .inl g29)), (xl, .inr (1, [.ref xlc])), (xlc, .inl (tq.1, 1473, .inl c))] H := hP
    have hD : va_D AA [(x0, .inr (7, [.ref xl, .ref xh, .ref xt, .ref xp, .ref xo, .ref xu, .ref xw])), (xh, .inr (0, [.ref xhc, .int (nI st), .int (nI nx)])), (xhc, .inl (tq.1, 7365, .inl hc)), (xu, .inr (5, [.ref xus])), (xus, .inl (tq.1, 6, .inl g29)), (xl, .inr (1, [.ref xlc])), (xlc, .inl (tq.1, 1473, .inl c))] := hD
    refine lv_aload_n hx hb dX7_write_32 rfl (lv_at hl 0 rfl) ?_
    refine va_get (D := dg) (ci := 7) (v := .ref xu) (C := RX7) (T := TX7) (N := 7) hx hb hts in7 hown hK hP 0 rfl rfl 5 (by decide) f47 (fun _ h9 => h9) rfl dX7_write_33 ?_
    refine lv_iload_n hx hb dX7_write_36 rfl (lv_at hl 1 rfl) ?_
    refine lv_iload_n hx hb dX7_write_37 rfl (lv_at hl 2 rfl) ?_
    refine lv_iload hx hb dX7_write_38 (lv_at hl 4 rfl) ?_
    refine call_x (va_runV (As := [.int (nI k), .int (nI f), .int (nI a)]) (rest := []) ⟨hx, hb, hml, hown, hts⟩ (kX5_affords ln dg tq (u0 := xu) (u1 := xus) (f := g29) (k := (nI k)) (a := f) (amt := (nI a)) (ha := (by omega)) H.size) (cwV 3 hts gX7_write_X5_affords rfl rfl rfl hdX5_affords ⟨Nat.le_of_ble_eq_true rfl, Nat.le_of_ble_eq_true rfl⟩) (preVR hK hN hP [3, 4] rfl 3 rfl rfl [.int (nI k), .int (nI f), .int (nI a)]) rfl rfl hl.1 rfl (lv_room (Nat.le_of_ble_eq_true rfl)) dX7_write_40 ⟨Nat.le_refl _, Nat.le_refl _⟩) hP hS hA (fun H locs hP hS => ?_)
    refine r_top (show (bI (!decide ((nI k).toInt = 2 ∨ (nI k).toInt = 3) || decide ((nI a).toInt ≤ (g29 f).toInt))) = (bI (affB s k f a)) from congrArg bI (affB_eq hW hw29 hk hf (by omega))) ?_
    refine r_if_ne_b (tgt := 49) hx hb dX7_write_43 (by decide) (fun c43 => ?_) (fun c43 => ?_)
    · skip
      refine lv_aload_n hx hb dX7_write_49 rfl (lv_at hl 0 rfl) ?_
      refine va_get (D := dg) (ci := 7) (v := .ref xl) (C := RX7) (T := TX7) (N := 7) hx hb hts in7 hown hK hP 0 rfl rfl 0 (by decide) f12 (fun _ h9 => h9) rfl dX7_write_50 ?_
      refine call_x (va_runV (As := []) (rest := []) ⟨hx, hb, hml, hown, hts⟩ (kX1_room ln dg tq (h0 := xl) (h1 := xlc) (c := c) (s := s) (hR := (by omega)) (hW := (by omega)) H.size) (cwV 0 hts gX7_write_X1_room rfl rfl rfl hdX1_room ⟨Nat.le_of_ble_eq_true rfl, Nat.le_of_ble_eq_true rfl⟩) (preVR hK hN hP [5, 6] rfl 5 rfl rfl []) rfl rfl hl.1 rfl (lv_room (Nat.le_of_ble_eq_true rfl)) dX7_write_53 ⟨Nat.le_refl _, Nat.le_refl _⟩) hP hS hA (fun H locs hP hS => ?_)
      refine lv_iconst (v := (nI 1)) hx hb dX7_write_56 (by decide) ?_
      refine r_icmp_ge (tgt := 63) hx hb (nI_tI (by omega)) (nI_tI (by omega)) dX7_write_57 (by decide) (fun c57 => ?_) (fun c57 => ?_)
      · skip
        refine lv_aload_n hx hb dX7_write_63 rfl (lv_at hl 0 rfl) ?_
        refine va_get (D := dg) (ci := 7) (v := .ref xh) (C := RX7) (T := TX7) (N := 7) hx hb hts in7 hown hK hP 0 rfl rfl 1 (by decide) f19 (fun _ h9 => h9) rfl dX7_write_64 ?_
        refine lv_aload_n hx hb dX7_write_67 rfl (lv_at hl 0 rfl) ?_
        refine va_get (D := dg) (ci := 7) (v := .ref xl) (C := RX7) (T := TX7) (N := 7) hx hb hts in7 hown hK hP 0 rfl rfl 0 (by decide) f12 (fun _ h9 => h9) rfl dX7_write_68 ?_
        refine call_v (wr := [(x0, .inr (7, [.ref xl, .ref xh, .ref xt, .ref xp, .ref xo, .ref xu, .ref xw])), (xu, .inr (5, [.ref xus])), (xus, .inl (tq.1, 6, .inl g29))]) (va_runV (As := [.ref xl]) (rest := []) ⟨hx, hb, hml, hown, hts⟩ (kX0_remember ln dg tq (b0 := xh) (b1 := xhc) (st := st) (nx := nx) (hc := hc) (h0 := xl) (h1 := xlc) (c := c) (hst := (by omega)) (hnx := (by omega)) H.size) (cwV 1 hts gX7_write_X0_remember rfl rfl rfl hdX0_remember ⟨Nat.le_of_ble_eq_true rfl, Nat.le_of_ble_eq_true rfl⟩) (preVB hK hN hP hD [1, 2, 5, 6] rfl rfl rfl 1 rfl rfl [.ref xl]) rfl rfl hl.1 rfl (lv_room (Nat.le_of_ble_eq_true rfl)) dX7_write_71 ⟨Nat.le_refl _, Nat.le_refl _⟩) hP hD hS hA [1, 2, 5, 6] [0, 3, 4] rfl rfl (by decide) (by decide) (fun u71 H locs hw71 hP hD hS => ?_)
        have hP : va_P dg vwCl [(x0, .inr (7, [.ref xl, .ref xh, .ref xt, .ref xp, .ref xo, .ref xu, .ref xw])), (xu, .inr (5, [.ref xus])), (xus, .inl (tq.1, 6, .inl g29)), (xh, .inr (0, [.ref xhc, .int (nI (recN st)), .int (nI ((nx + 1) % 5))])), (xhc, .inl (tq.1, 7365, .inl (va_cpy c hc 0 (nx * 1473) 1473))), (xl, .inr (1, [.ref xlc])), (xlc, .inl (tq.1, 1473, .inl c))] H := hP
        have hD : va_D AA [(x0, .inr (7, [.ref xl, .ref xh, .ref xt, .ref xp, .ref xo, .ref xu, .ref xw])), (xu, .inr (5, [.ref xus])), (xus, .inl (tq.1, 6, .inl g29)), (xh, .inr (0, [.ref xhc, .int (nI (recN st)), .int (nI ((nx + 1) % 5))])), (xhc, .inl (tq.1, 7365, .inl (va_cpy c hc 0 (nx * 1473) 1473))), (xl, .inr (1, [.ref xlc])), (xlc, .inl (tq.1, 1473, .inl c))] := hD
        refine lv_aload_n hx hb dX7_write_74 rfl (lv_at hl 0 rfl) ?_
        refine va_get (D := dg) (ci := 7) (v := .ref xl) (C := RX7) (T := TX7) (N := 7) hx hb hts in7 hown hK hP 0 rfl rfl 0 (by decide) f12 (fun _ h9 => h9) rfl dX7_write_75 ?_
        refine call_v (wr := [(x0, .inr (7, [.ref xl, .ref xh, .ref xt, .ref xp, .ref xo, .ref xu, .ref xw])), (xu, .inr (5, [.ref xus])), (xus, .inl (tq.1, 6, .inl g29)), (xh, .inr (0, [.ref xhc, .int (nI (recN st)), .int (nI ((nx + 1) % 5))])), (xhc, .inl (tq.1, 7365, .inl (va_cpy c hc 0 (nx * 1473) 1473)))]) (va_runV (As := []) (rest := []) ⟨hx, hb, hml, hown, hts⟩ (kX1_plead ln dg tq (h0 := xl) (h1 := xlc) (c := c) (s := s) (hR := (by omega)) (hW := (by omega)) H.size) (cwV 0 hts gX7_write_X1_plead rfl rfl rfl hdX1_plead ⟨Nat.le_of_ble_eq_true rfl, Nat.le_of_ble_eq_true rfl⟩) (preVB hK hN hP hD [5, 6] rfl rfl rfl 5 rfl rfl []) rfl rfl hl.1 rfl (lv_room (Nat.le_of_ble_eq_true rfl)) dX7_write_78 ⟨Nat.le_refl _, Nat.le_refl _⟩) hP hD hS hA [5, 6] [0, 1, 2, 3, 4] rfl rfl (by decide) (by decide) (fun u78 H locs hw78 hP hD hS => ?_)
        have hP : va_P dg vwCl [(x0, .inr (7, [.ref xl, .ref xh, .ref xt, .ref xp, .ref xo, .ref xu, .ref xw])), (xu, .inr (5, [.ref xus])), (xus, .inl (tq.1, 6, .inl g29)), (xh, .inr (0, [.ref xhc, .int (nI (recN st)), .int (nI ((nx + 1) % 5))])), (xhc, .inl (tq.1, 7365, .inl (va_cpy c hc 0 (nx * 1473) 1473))), (xl, .inr (1, [.ref xlc])), (xlc, .inl (tq.1, 1473, .inl (xpleadF s c (nB s))))] H := hP
        have hD : va_D AA [(x0, .inr (7, [.ref xl, .ref xh, .ref xt, .ref xp, .ref xo, .ref xu, .ref xw])), (xu, .inr (5, [.ref xus])), (xus, .inl (tq.1, 6, .inl g29)), (xh, .inr (0, [.ref xhc, .int (nI (recN st)), .int (nI ((nx + 1) % 5))])), (xhc, .inl (tq.1, 7365, .inl (va_cpy c hc 0 (nx * 1473) 1473))), (xl, .inr (1, [.ref xlc])), (xlc, .inl (tq.1, 1473, .inl (xpleadF s c (nB s))))] := hD
        refine lv_aload_n hx hb dX7_write_81 rfl (lv_at hl 0 rfl) ?_
        refine va_get (D := dg) (ci := 7) (v := .ref xl) (C := RX7) (T := TX7) (N := 7) hx hb hts in7 hown hK hP 0 rfl rfl 0 (by decide) f12 (fun _ h9 => h9) rfl dX7_write_82 ?_
        refine lv_iload_n hx hb dX7_write_85 rfl (lv_at hl 1 rfl) ?_
        refine lv_iload_n hx hb dX7_write_86 rfl (lv_at hl 2 rfl) ?_
        refine lv_iload_n hx hb dX7_write_87 rfl (lv_at hl 3 rfl) ?_
        refine lv_iload hx hb dX7_write_88 (lv_at hl 4 rfl) ?_
        refine lv_ldc hx hb hown k104 dX7_write_90 ?_
        refine call_w (wr := [(x0, .inr (7, [.ref xl, .ref xh, .ref xt, .ref xp, .ref xo, .ref xu, .ref xw])), (xu, .inr (5, [.ref xus])), (xus, .inl (tq.1, 6, .inl g29)), (xh, .inr (0, [.ref xhc, .int (nI (recN st)), .int (nI ((nx + 1) % 5))])), (xhc, .inl (tq.1, 7365, .inl (va_cpy c hc 0 (nx * 1473) 1473)))]) (va_runV (As := [.int (nI k), .int (nI f), .int (nI t), .int (nI a), .int (-100009)]) (rest := []) ⟨hx, hb, hml, hown, hts⟩ (kX1_addEntry ln dg tq (h0 := xl) (h1 := xlc) (c := xpleadF s c (nB s)) (s := plead s) (hR := (XR_plead hR hW)) (hW := (WF_plead hW)) (k := (nI k)) (f := (nI f)) (t := (nI t)) (a := (nI a)) (o := (-100009)) (hn := (by rw [nE_plead hW]; omega)) H.size) (cwV 5 hts gX7_write_X1_addEntry rfl rfl rfl hdX1_addEntry ⟨Nat.le_of_ble_eq_true rfl, Nat.le_of_ble_eq_true rfl⟩) (preVB hK hN hP hD [5, 6] rfl rfl rfl 5 rfl rfl [.int (nI k), .int (nI f), .int (nI t), .int (nI a), .int (-100009)]) rfl rfl hl.1 rfl (lv_room (Nat.le_of_ble_eq_true rfl)) dX7_write_92 ⟨Nat.le_refl _, Nat.le_refl _⟩) hP hD hS hA [5, 6] [0, 1, 2, 3, 4] rfl rfl (by decide) (by decide) (fun r92 u92 H locs hw92 hP hD hS => ?_)
        have hP : va_P dg vwCl [(x0, .inr (7, [.ref xl, .ref xh, .ref xt, .ref xp, .ref xo, .ref xu, .ref xw])), (xu, .inr (5, [.ref xus])), (xus, .inl (tq.1, 6, .inl g29)), (xh, .inr (0, [.ref xhc, .int (nI (recN st)), .int (nI ((nx + 1) % 5))])), (xhc, .inl (tq.1, 7365, .inl (va_cpy c hc 0 (nx * 1473) 1473))), (xl, .inr (1, [.ref xlc])), (xlc, .inl (tq.1, 1473, .inl (xputE (plead s) (xpleadF s c (nB s)) (nI k) (nI f) (nI t) (nI a) (-100009))))] H := hP
        have hD : va_D AA [(x0, .inr (7, [.ref xl, .ref xh, .ref xt, .ref xp, .ref xo, .ref xu, .ref xw])), (xu, .inr (5, [.ref xus])), (xus, .inl (tq.1, 6, .inl g29)), (xh, .inr (0, [.ref xhc, .int (nI (recN st)), .int (nI ((nx + 1) % 5))])), (xhc, .inl (tq.1, 7365, .inl (va_cpy c hc 0 (nx * 1473) 1473))), (xl, .inr (1, [.ref xlc])), (xlc, .inl (tq.1, 1473, .inl (xputE (plead s) (xpleadF s c (nB s)) (nI k) (nI f) (nI t) (nI a) (-100009))))] := hD
        subst hw92
        refine r_top (show (nI (nE (plead s))) = (nI (nE s)) from by rw [nE_plead hW]) ?_
        exact hret (nI (nE s)) ((xputE (plead s) (xpleadF s c (nB s)) (nI k) (nI f) (nI t) (nI a) (-100009)), (va_cpy c hc 0 (nx * 1473) 1473), (recN st), ((nx + 1) % 5), g29) H locs _ ls (show (nI (nE s)) = (wrR s k f a) ∧ (ACT s c hc st nx (wrO s k f a) (wrS s k f t a) (xputE (plead s) (xpleadF s c (nB s)) (nI k) (nI f) (nI t) (nI a) (-100009)) (va_cpy c hc 0 (nx * 1473) 1473) (recN st) ((nx + 1) % 5)) from (⟨by unfold wrR; rw [if_neg (fun z => z.elim (fun z => by omega) (fun z => by rw [c43] at z; cases z)), if_neg (by omega)], ACT.yes (by unfold wrO; rw [c43, decide_eq_true (by omega), decide_eq_false (by omega)]; rfl) (FS_wr hF (by unfold wrO; rw [c43, decide_eq_true (by omega), decide_eq_false (by omega)]; rfl) hf ht ha hk hT)⟩)) rfl (hP.sub [0, 5, 6, 3, 4, 1, 2] rfl) (hD.sub [0, 5, 6, 3, 4, 1, 2] (by decide) rfl) hS dX7_write_95
      · skip
        refine lv_ldc hx hb hown k96 dX7_write_60 ?_
        exact hret (-100003) (c, hc, st, nx, g29) H locs _ ls (show (-100003) = (wrR s k f a) ∧ (ACT s c hc st nx (wrO s k f a) (wrS s k f t a) c hc st nx) from (⟨by unfold wrR; rw [if_neg (fun z => z.elim (fun z => by omega) (fun z => by rw [c43] at z; cases z)), if_pos (by omega)], ACT.no (by unfold wrO; rw [decide_eq_true (show nE s = 60 by omega)]; simp)⟩)) rfl (hP.sub [0, 5, 6, 1, 2, 3, 4] rfl) (hD.sub [0, 5, 6, 1, 2, 3, 4] (by decide) rfl) hS dX7_write_62
    · skip
      refine lv_ldc hx hb hown k80 dX7_write_46 ?_
      exact hret (-100002) (c, hc, st, nx, g29) H locs _ ls (show (-100002) = (wrR s k f a) ∧ (ACT s c hc st nx (wrO s k f a) (wrS s k f t a) c hc st nx) from (⟨by unfold wrR; rw [if_pos (Or.inr c43)], ACT.no (by unfold wrO; rw [c43, Bool.and_false]; rfl)⟩)) rfl (hP.sub [0, 5, 6, 1, 2, 3, 4] rfl) (hD.sub [0, 5, 6, 1, 2, 3, 4] (by decide) rfl) hS dX7_write_48
  · skip
    refine lv_ldc hx hb hown k80 dX7_write_10 ?_
    exact hret (-100002) (c, hc, st, nx, uf) H locs _ ls (show (-100002) = (wrR s k f a) ∧ (ACT s c hc st nx (wrO s k f a) (wrS s k f t a) c hc st nx) from (⟨by unfold wrR; rw [if_pos (Or.inl (by omega))], ACT.no (by unfold wrO; rw [decide_eq_false (by omega)]; rfl)⟩)) rfl (hP.sub [0, 1, 2, 3, 4, 5, 6] rfl) (hD.sub [0, 1, 2, 3, 4, 5, 6] (by decide) rfl) hS dX7_write_12
theorem hdX7_deposit : yX7_deposit.cls = RX7 ∧ yX7_deposit.cls ≠ "java/lang/invoke/MethodHandle" ∧ yX7_deposit.cls ≠ "java/lang/invoke/VarHandle" ∧ (parseMethodDescriptor yX7_deposit.desc).map (fun d => d.parameters.length) = some 2 := by decide +kernel
set_option maxHeartbeats 4000000 in
set_option maxRecDepth 100000 in
theorem kX7_deposit (ln : Launch) (dg : va_G) (tq : ClassId × ClassId) (x0 xl xh xt xp xo xu xw : Nat)(xlc : Nat) (c : Row) (s : Row) (hF : FS s c)(xhc : Nat) (st nx : Nat) (hc : Row) (hst : st ≤ 5) (hnx : nx < 5)(xus : Nat) (uf : Row) (to am : Int32) : MW ln yX7_deposit wsX7_deposit (rmm 5 110) dg tq [.ref x0, .int to, .int am] [(x0, .inr (7, [.ref xl, .ref xh, .ref xt, .ref xp, .ref xo, .ref xu, .ref xw])), (xl, .inr (1, [.ref xlc])), (xlc, .inl (tq.1, 1473, .inl c)), (xh, .inr (0, [.ref xhc, .int (nI st), .int (nI nx)])), (xhc, .inl (tq.1, 7365, .inl hc)), (xu, .inr (5, [.ref xus])), (xus, .inl (tq.1, 6, .inl uf))] (fun (r : Int32) (u : Row × Row × Nat × Nat × Row) => r = (dpR s to am) ∧ (ACT s c hc st nx (dpO s to am) (dpS s to am) u.1 u.2.1 u.2.2.1 u.2.2.2.1)) (fun u => [(x0, .inr (7, [.ref xl, .ref xh, .ref xt, .ref xp, .ref xo, .ref xu, .ref xw])), (xl, .inr (1, [.ref xlc])), (xlc, .inl (tq.1, 1473, .inl u.1)), (xh, .inr (0, [.ref xhc, .int (nI u.2.2.1), .int (nI u.2.2.2.1)])), (xhc, .inl (tq.1, 7365, .inl u.2.1)), (xu, .inr (5, [.ref xus])), (xus, .inl (tq.1, 6, .inl u.2.2.2.2))]) := by
  refine MW.enter cX7_deposit 3 .int (by decide) rfl rfl (Nat.le_of_ble_eq_true rfl) ?_
  intro pP eE sS mM aA bB mT cC QQ AA hA hAT hret H locs hP hD hS ls hl
  obtain ⟨hx, hb, hml, hown, hts, hK, hN⟩ := hAT
  have hown : sS.vm.findClass RX7 = some mM.cls := hown
  have hl : lv_has ls 3 [(0, .ref x0), (1, .int to), (2, .int am)] := hl
  have k65 := hts (.constant RX7 65 (-100001)) (List.mem_of_getElem? (i := 1) rfl)
  obtain ⟨hR, hW, hs0, hs1⟩ := id hF
  have hn60 := hW.n60
  have hb10 := hW.b10
  have hs8 := hW.s8
  have hhn := hW.hn
  have hcl := cntF_le (loudB s) (nB s)
  refine lv_iload_n hx hb dX7_deposit_0 rfl (lv_at hl 1 rfl) ?_
  refine call_x (va_runS (As := [.int to]) (rest := []) ⟨hx, hb, hml, hown, hts⟩ (kX7_isAccount ln dg tq (v := to) H.size) (va_cwS 1 hts gX7_deposit_X7_isAccount rfl rfl rfl hdX7_isAccount.2 ⟨Nat.le_of_ble_eq_true rfl, Nat.le_of_ble_eq_true rfl⟩) (preS0 hK hN [.int to]) rfl rfl hl.1 rfl (lv_room (Nat.le_of_ble_eq_true rfl)) dX7_deposit_1 ⟨Nat.le_refl _, Nat.le_refl _⟩) hP hS hA (fun H locs hP hS => ?_)
  refine r_if_eq_b (tgt := 14) hx hb dX7_deposit_4 (by decide) (fun c4 => ?_) (fun c4 => ?_)
  · skip
    refine lv_ldc hx hb hown k65 dX7_deposit_14 ?_
    exact hret (-100001) (c, hc, st, nx, uf) H locs _ ls (show (-100001) = (dpR s to am) ∧ (ACT s c hc st nx (dpO s to am) (dpS s to am) c hc st nx) from (⟨by simp [dpR, dpP, c4], ACT.no (by simp [dpO, dpP, c4])⟩)) rfl (hP.sub [0, 1, 2, 3, 4, 5, 6] rfl) (hD.sub [0, 1, 2, 3, 4, 5, 6] (by decide) rfl) hS dX7_deposit_16
  · skip
    refine lv_iload_n hx hb dX7_deposit_7 rfl (lv_at hl 2 rfl) ?_
    refine call_x (va_runS (As := [.int am]) (rest := []) ⟨hx, hb, hml, hown, hts⟩ (kX7_isSum ln dg tq (v := am) H.size) (va_cwS 1 hts gX7_deposit_X7_isSum rfl rfl rfl hdX7_isSum.2 ⟨Nat.le_of_ble_eq_true rfl, Nat.le_of_ble_eq_true rfl⟩) (preS0 hK hN [.int am]) rfl rfl hl.1 rfl (lv_room (Nat.le_of_ble_eq_true rfl)) dX7_deposit_8 ⟨Nat.le_refl _, Nat.le_refl _⟩) hP hS hA (fun H locs hP hS => ?_)
    refine r_if_ne_b (tgt := 17) hx hb dX7_deposit_11 (by decide) (fun c11 => ?_) (fun c11 => ?_)
    · skip
      obtain ⟨tk_, htk_1, htk_2, rfl⟩ := inR_t (by omega) (by omega) c4
      obtain ⟨ak_, hak_1, hak_2, rfl⟩ := inR_t (by omega) (by omega) c11
      refine lv_aload_n hx hb dX7_deposit_17 rfl (lv_at hl 0 rfl) ?_
      refine lv_iconst (v := (nI 1)) hx hb dX7_deposit_18 (by decide) ?_
      refine lv_iconst (v := (nI 0)) hx hb dX7_deposit_19 (by decide) ?_
      refine lv_iload_n hx hb dX7_deposit_20 rfl (lv_at hl 1 rfl) ?_
      refine lv_iload_n hx hb dX7_deposit_21 rfl (lv_at hl 2 rfl) ?_
      refine call_w (wr := []) (va_runV (As := [.int (nI 1), .int (nI 0), .int (nI tk_), .int (nI ak_)]) (rest := []) ⟨hx, hb, hml, hown, hts⟩ (kX7_write ln dg tq (x0 := x0) (xl := xl) (xh := xh) (xt := xt) (xp := xp) (xo := xo) (xu := xu) (xw := xw) (xlc := xlc) (c := c) (s := s) (hF := hF) (xhc := xhc) (st := st) (nx := nx) (hc := hc) (hst := (by omega)) (hnx := (by omega)) (xus := xus) (uf := uf) (k := 1) (f := 0) (t := tk_) (a := ak_) (hk := (by omega)) (hf := (by omega)) (ht := (by omega)) (ha := (by omega)) (hT := (fun h => by omega)) H.size) (cwV 4 hts gX7_deposit_X7_write rfl rfl rfl hdX7_write ⟨Nat.le_of_ble_eq_true rfl, Nat.le_of_ble_eq_true rfl⟩) (preVB hK hN hP hD [0, 1, 2, 3, 4, 5, 6] rfl rfl rfl 0 rfl rfl [.int (nI 1), .int (nI 0), .int (nI tk_), .int (nI ak_)]) rfl rfl hl.1 rfl (lv_room (Nat.le_of_ble_eq_true rfl)) dX7_deposit_22 ⟨Nat.le_refl _, Nat.le_refl _⟩) hP hD hS hA [0, 1, 2, 3, 4, 5, 6] [] rfl rfl (by decide) (by decide) (fun r22 u22 H locs hw22 hP hD hS => ?_)
      obtain ⟨c222, hc222, st222, nx222, uf222⟩ := u22
      have hP : va_P dg vwCl [(x0, .inr (7, [.ref xl, .ref xh, .ref xt, .ref xp, .ref xo, .ref xu, .ref xw])), (xl, .inr (1, [.ref xlc])), (xlc, .inl (tq.1, 1473, .inl c222)), (xh, .inr (0, [.ref xhc, .int (nI st222), .int (nI nx222)])), (xhc, .inl (tq.1, 7365, .inl hc222)), (xu, .inr (5, [.ref xus])), (xus, .inl (tq.1, 6, .inl uf222))] H := hP
      have hD : va_D AA [(x0, .inr (7, [.ref xl, .ref xh, .ref xt, .ref xp, .ref xo, .ref xu, .ref xw])), (xl, .inr (1, [.ref xlc])), (xlc, .inl (tq.1, 1473, .inl c222)), (xh, .inr (0, [.ref xhc, .int (nI st222), .int (nI nx222)])), (xhc, .inl (tq.1, 7365, .inl hc222)), (xu, .inr (5, [.ref xus])), (xus, .inl (tq.1, 6, .inl uf222))] := hD
      obtain ⟨hr22, hw22⟩ := hw22
      subst hr22
      exact hret (wrR s 1 0 ak_) (c222, hc222, st222, nx222, uf222) H locs _ ls (show (wrR s 1 0 ak_) = (dpR s (nI tk_) (nI ak_)) ∧ (ACT s c hc st nx (dpO s (nI tk_) (nI ak_)) (dpS s (nI tk_) (nI ak_)) c222 hc222 st222 nx222) from (by unfold dpR dpO dpS dpP; rw [c4, c11, cl_n (show ak_ < 2147483648 by omega), cl_n (show tk_ < 2147483648 by omega)]; exact ⟨rfl, hw22⟩)) rfl (hP.sub [0, 1, 2, 3, 4, 5, 6] rfl) (hD.sub [0, 1, 2, 3, 4, 5, 6] (by decide) rfl) hS dX7_deposit_25
    · skip
      refine lv_ldc hx hb hown k65 dX7_deposit_14 ?_
      exact hret (-100001) (c, hc, st, nx, uf) H locs _ ls (show (-100001) = (dpR s to am) ∧ (ACT s c hc st nx (dpO s to am) (dpS s to am) c hc st nx) from (⟨by simp [dpR, dpP, c4, c11], ACT.no (by simp [dpO, dpP, c4, c11])⟩)) rfl (hP.sub [0, 1, 2, 3, 4, 5, 6] rfl) (hD.sub [0, 1, 2, 3, 4, 5, 6] (by decide) rfl) hS dX7_deposit_16
theorem hdX7_pay : yX7_pay.cls = RX7 ∧ yX7_pay.cls ≠ "java/lang/invoke/MethodHandle" ∧ yX7_pay.cls ≠ "java/lang/invoke/VarHandle" ∧ (parseMethodDescriptor yX7_pay.desc).map (fun d => d.parameters.length) = some 3 := by decide +kernel
set_option maxHeartbeats 4000000 in
set_option maxRecDepth 100000 in
theorem kX7_pay (ln : Launch) (dg : va_G) (tq : ClassId × ClassId) (x0 xl xh xt xp xo xu xw : Nat)(xlc : Nat) (c : Row) (s : Row) (hF : FS s c)(xhc : Nat) (st nx : Nat) (hc : Row) (hst : st ≤ 5) (hnx : nx < 5)(xus : Nat) (uf : Row) (f t am : Int32) : MW ln yX7_pay wsX7_pay (rmm 5 110) dg tq [.ref x0, .int f, .int t, .int am] [(x0, .inr (7, [.ref xl, .ref xh, .ref xt, .ref xp, .ref xo, .ref xu, .ref xw])), (xl, .inr (1, [.ref xlc])), (xlc, .inl (tq.1, 1473, .inl c)), (xh, .inr (0, [.ref xhc, .int (nI st), .int (nI nx)])), (xhc, .inl (tq.1, 7365, .inl hc)), (xu, .inr (5, [.ref xus])), (xus, .inl (tq.1, 6, .inl uf))] (fun (r : Int32) (u : Row × Row × Nat × Nat × Row) => r = (pyR s f t am) ∧ (ACT s c hc st nx (pyO s f t am) (pyS s f t am) u.1 u.2.1 u.2.2.1 u.2.2.2.1)) (fun u => [(x0, .inr (7, [.ref xl, .ref xh, .ref xt, .ref xp, .ref xo, .ref xu, .ref xw])), (xl, .inr (1, [.ref xlc])), (xlc, .inl (tq.1, 1473, .inl u.1)), (xh, .inr (0, [.ref xhc, .int (nI u.2.2.1), .int (nI u.2.2.2.1)])), (xhc, .inl (tq.1, 7365, .inl u.2.1)), (xu, .inr (5, [.ref xus])), (xus, .inl (tq.1, 6, .inl u.2.2.2.2))]) := by
  refine MW.enter cX7_pay 4 .int (by decide) rfl rfl (Nat.le_of_ble_eq_true rfl) ?_
  intro pP eE sS mM aA bB mT cC QQ AA hA hAT hret H locs hP hD hS ls hl
  obtain ⟨hx, hb, hml, hown, hts, hK, hN⟩ := hAT
  have hown : sS.vm.findClass RX7 = some mM.cls := hown
  have hl : lv_has ls 4 [(0, .ref x0), (1, .int f), (2, .int t), (3, .int am)] := hl
  have k65 := hts (.constant RX7 65 (-100001)) (List.mem_of_getElem? (i := 1) rfl)
  obtain ⟨hR, hW, hs0, hs1⟩ := id hF
  have hn60 := hW.n60
  have hb10 := hW.b10
  have hs8 := hW.s8
  have hhn := hW.hn
  have hcl := cntF_le (loudB s) (nB s)
  refine lv_iload_n hx hb dX7_pay_0 rfl (lv_at hl 1 rfl) ?_
  refine call_x (va_runS (As := [.int f]) (rest := []) ⟨hx, hb, hml, hown, hts⟩ (kX7_isPayer ln dg tq (v := f) H.size) (va_cwS 1 hts gX7_pay_X7_isPayer rfl rfl rfl hdX7_isPayer.2 ⟨Nat.le_of_ble_eq_true rfl, Nat.le_of_ble_eq_true rfl⟩) (preS0 hK hN [.int f]) rfl rfl hl.1 rfl (lv_room (Nat.le_of_ble_eq_true rfl)) dX7_pay_1 ⟨Nat.le_refl _, Nat.le_refl _⟩) hP hS hA (fun H locs hP hS => ?_)
  refine r_if_eq_b (tgt := 26) hx hb dX7_pay_4 (by decide) (fun c4 => ?_) (fun c4 => ?_)
  · skip
    refine lv_ldc hx hb hown k65 dX7_pay_26 ?_
    exact hret (-100001) (c, hc, st, nx, uf) H locs _ ls (show (-100001) = (pyR s f t am) ∧ (ACT s c hc st nx (pyO s f t am) (pyS s f t am) c hc st nx) from (⟨by simp [pyR, pyP, c4], ACT.no (by simp [pyO, pyP, c4])⟩)) rfl (hP.sub [0, 1, 2, 3, 4, 5, 6] rfl) (hD.sub [0, 1, 2, 3, 4, 5, 6] (by decide) rfl) hS dX7_pay_28
  · skip
    refine lv_iload_n hx hb dX7_pay_7 rfl (lv_at hl 2 rfl) ?_
    refine call_x (va_runS (As := [.int t]) (rest := []) ⟨hx, hb, hml, hown, hts⟩ (kX7_isPayer ln dg tq (v := t) H.size) (va_cwS 1 hts gX7_pay_X7_isPayer rfl rfl rfl hdX7_isPayer.2 ⟨Nat.le_of_ble_eq_true rfl, Nat.le_of_ble_eq_true rfl⟩) (preS0 hK hN [.int t]) rfl rfl hl.1 rfl (lv_room (Nat.le_of_ble_eq_true rfl)) dX7_pay_8 ⟨Nat.le_refl _, Nat.le_refl _⟩) hP hS hA (fun H locs hP hS => ?_)
    refine r_if_eq_b (tgt := 26) hx hb dX7_pay_11 (by decide) (fun c11 => ?_) (fun c11 => ?_)
    · skip
      refine lv_ldc hx hb hown k65 dX7_pay_26 ?_
      exact hret (-100001) (c, hc, st, nx, uf) H locs _ ls (show (-100001) = (pyR s f t am) ∧ (ACT s c hc st nx (pyO s f t am) (pyS s f t am) c hc st nx) from (⟨by simp [pyR, pyP, c4, c11], ACT.no (by simp [pyO, pyP, c4, c11])⟩)) rfl (hP.sub [0, 1, 2, 3, 4, 5, 6] rfl) (hD.sub [0, 1, 2, 3, 4, 5, 6] (by decide) rfl) hS dX7_pay_28
    · skip
      refine lv_iload_n hx hb dX7_pay_14 rfl (lv_at hl 1 rfl) ?_
      refine lv_iload_n hx hb dX7_pay_15 rfl (lv_at hl 2 rfl) ?_
      refine lv_icmp_eq (tgt := 26) hx hb dX7_pay_16 (by decide) (fun c16 => ?_) (fun c16 => ?_)
      · skip
        refine lv_ldc hx hb hown k65 dX7_pay_26 ?_
        exact hret (-100001) (c, hc, st, nx, uf) H locs _ ls (show (-100001) = (pyR s f t am) ∧ (ACT s c hc st nx (pyO s f t am) (pyS s f t am) c hc st nx) from (⟨by simp [pyR, pyP, c4, c11, c16], ACT.no (by simp [pyO, pyP, c4, c11, c16])⟩)) rfl (hP.sub [0, 1, 2, 3, 4, 5, 6] rfl) (hD.sub [0, 1, 2, 3, 4, 5, 6] (by decide) rfl) hS dX7_pay_28
      · skip
        refine lv_iload_n hx hb dX7_pay_19 rfl (lv_at hl 3 rfl) ?_
        refine call_x (va_runS (As := [.int am]) (rest := []) ⟨hx, hb, hml, hown, hts⟩ (kX7_isSum ln dg tq (v := am) H.size) (va_cwS 1 hts gX7_pay_X7_isSum rfl rfl rfl hdX7_isSum.2 ⟨Nat.le_of_ble_eq_true rfl, Nat.le_of_ble_eq_true rfl⟩) (preS0 hK hN [.int am]) rfl rfl hl.1 rfl (lv_room (Nat.le_of_ble_eq_true rfl)) dX7_pay_20 ⟨Nat.le_refl _, Nat.le_refl _⟩) hP hS hA (fun H locs hP hS => ?_)
        refine r_if_ne_b (tgt := 29) hx hb dX7_pay_23 (by decide) (fun c23 => ?_) (fun c23 => ?_)
        · skip
          obtain ⟨fk_, hfk_1, hfk_2, rfl⟩ := inR_t (by omega) (by omega) c4
          obtain ⟨tk_, htk_1, htk_2, rfl⟩ := inR_t (by omega) (by omega) c11
          obtain ⟨ak_, hak_1, hak_2, rfl⟩ := inR_t (by omega) (by omega) c23
          have hne : fk_ ≠ tk_ := fun z => c16 (by rw [z])
          refine lv_aload_n hx hb dX7_pay_29 rfl (lv_at hl 0 rfl) ?_
          refine lv_iconst (v := (nI 2)) hx hb dX7_pay_30 (by decide) ?_
          refine lv_iload_n hx hb dX7_pay_31 rfl (lv_at hl 1 rfl) ?_
          refine lv_iload_n hx hb dX7_pay_32 rfl (lv_at hl 2 rfl) ?_
          refine lv_iload_n hx hb dX7_pay_33 rfl (lv_at hl 3 rfl) ?_
          refine call_w (wr := []) (va_runV (As := [.int (nI 2), .int (nI fk_), .int (nI tk_), .int (nI ak_)]) (rest := []) ⟨hx, hb, hml, hown, hts⟩ (kX7_write ln dg tq (x0 := x0) (xl := xl) (xh := xh) (xt := xt) (xp := xp) (xo := xo) (xu := xu) (xw := xw) (xlc := xlc) (c := c) (s := s) (hF := hF) (xhc := xhc) (st := st) (nx := nx) (hc := hc) (hst := (by omega)) (hnx := (by omega)) (xus := xus) (uf := uf) (k := 2) (f := fk_) (t := tk_) (a := ak_) (hk := (by omega)) (hf := (by omega)) (ht := (by omega)) (ha := (by omega)) (hT := (fun _ => hne)) H.size) (cwV 4 hts gX7_pay_X7_write rfl rfl rfl hdX7_write ⟨Nat.le_of_ble_eq_true rfl, Nat.le_of_ble_eq_true rfl⟩) (preVB hK hN hP hD [0, 1, 2, 3, 4, 5, 6] rfl rfl rfl 0 rfl rfl [.int (nI 2), .int (nI fk_), .int (nI tk_), .int (nI ak_)]) rfl rfl hl.1 rfl (lv_room (Nat.le_of_ble_eq_true rfl)) dX7_pay_34 ⟨Nat.le_refl _, Nat.le_refl _⟩) hP hD hS hA [0, 1, 2, 3, 4, 5, 6] [] rfl rfl (by decide) (by decide) (fun r34 u34 H locs hw34 hP hD hS => ?_)
          obtain ⟨c234, hc234, st234, nx234, uf234⟩ := u34
          have hP : va_P dg vwCl [(x0, .inr (7, [.ref xl, .ref xh, .ref xt, .ref xp, .ref xo, .ref xu, .ref xw])), (xl, .inr (1, [.ref xlc])), (xlc, .inl (tq.1, 1473, .inl c234)), (xh, .inr (0, [.ref xhc, .int (nI st234), .int (nI nx234)])), (xhc, .inl (tq.1, 7365, .inl hc234)), (xu, .inr (5, [.ref xus])), (xus, .inl (tq.1, 6, .inl uf234))] H := hP
          have hD : va_D AA [(x0, .inr (7, [.ref xl, .ref xh, .ref xt, .ref xp, .ref xo, .ref xu, .ref xw])), (xl, .inr (1, [.ref xlc])), (xlc, .inl (tq.1, 1473, .inl c234)), (xh, .inr (0, [.ref xhc, .int (nI st234), .int (nI nx234)])), (xhc, .inl (tq.1, 7365, .inl hc234)), (xu, .inr (5, [.ref xus])), (xus, .inl (tq.1, 6, .inl uf234))] := hD
          obtain ⟨hr34, hw34⟩ := hw34
          subst hr34
          exact hret (wrR s 2 fk_ ak_) (c234, hc234, st234, nx234, uf234) H locs _ ls (show (wrR s 2 fk_ ak_) = (pyR s (nI fk_) (nI tk_) (nI ak_)) ∧ (ACT s c hc st nx (pyO s (nI fk_) (nI tk_) (nI ak_)) (pyS s (nI fk_) (nI tk_) (nI ak_)) c234 hc234 st234 nx234) from (by unfold pyR pyO pyS pyP; rw [c4, c11, c23, decide_eq_false c16, cl_n (show ak_ < 2147483648 by omega), cl_n (show tk_ < 2147483648 by omega), cl_n (show fk_ < 2147483648 by omega)]; exact ⟨rfl, hw34⟩)) rfl (hP.sub [0, 1, 2, 3, 4, 5, 6] rfl) (hD.sub [0, 1, 2, 3, 4, 5, 6] (by decide) rfl) hS dX7_pay_37
        · skip
          refine lv_ldc hx hb hown k65 dX7_pay_26 ?_
          exact hret (-100001) (c, hc, st, nx, uf) H locs _ ls (show (-100001) = (pyR s f t am) ∧ (ACT s c hc st nx (pyO s f t am) (pyS s f t am) c hc st nx) from (⟨by simp [pyR, pyP, c4, c11, c16, c23], ACT.no (by simp [pyO, pyP, c4, c11, c16, c23])⟩)) rfl (hP.sub [0, 1, 2, 3, 4, 5, 6] rfl) (hD.sub [0, 1, 2, 3, 4, 5, 6] (by decide) rfl) hS dX7_pay_28
theorem hdX7_fee : yX7_fee.cls = RX7 ∧ yX7_fee.cls ≠ "java/lang/invoke/MethodHandle" ∧ yX7_fee.cls ≠ "java/lang/invoke/VarHandle" ∧ (parseMethodDescriptor yX7_fee.desc).map (fun d => d.parameters.length) = some 2 := by decide +kernel
set_option maxHeartbeats 4000000 in
set_option maxRecDepth 100000 in
theorem kX7_fee (ln : Launch) (dg : va_G) (tq : ClassId × ClassId) (x0 xl xh xt xp xo xu xw : Nat)(xlc : Nat) (c : Row) (s : Row) (hF : FS s c)(xhc : Nat) (st nx : Nat) (hc : Row) (hst : st ≤ 5) (hnx : nx < 5)(xus : Nat) (uf : Row) (f am : Int32) : MW ln yX7_fee wsX7_fee (rmm 5 110) dg tq [.ref x0, .int f, .int am] [(x0, .inr (7, [.ref xl, .ref xh, .ref xt, .ref xp, .ref xo, .ref xu, .ref xw])), (xl, .inr (1, [.ref xlc])), (xlc, .inl (tq.1, 1473, .inl c)), (xh, .inr (0, [.ref xhc, .int (nI st), .int (nI nx)])), (xhc, .inl (tq.1, 7365, .inl hc)), (xu, .inr (5, [.ref xus])), (xus, .inl (tq.1, 6, .inl uf))] (fun (r : Int32) (u : Row × Row × Nat × Nat × Row) => r = (feR s f am) ∧ (ACT s c hc st nx (feO s f am) (feS s f am) u.1 u.2.1 u.2.2.1 u.2.2.2.1)) (fun u => [(x0, .inr (7, [.ref xl, .ref xh, .ref xt, .ref xp, .ref xo, .ref xu, .ref xw])), (xl, .inr (1, [.ref xlc])), (xlc, .inl (tq.1, 1473, .inl u.1)), (xh, .inr (0, [.ref xhc, .int (nI u.2.2.1), .int (nI u.2.2.2.1)])), (xhc, .inl (tq.1, 7365, .inl u.2.1)), (xu, .inr (5, [.ref xus])), (xus, .inl (tq.1, 6, .inl u.2.2.2.2))]) := by
  refine MW.enter cX7_fee 3 .int (by decide) rfl rfl (Nat.le_of_ble_eq_true rfl) ?_
  intro pP eE sS mM aA bB mT cC QQ AA hA hAT hret H locs hP hD hS ls hl
  obtain ⟨hx, hb, hml, hown, hts, hK, hN⟩ := hAT
  have hown : sS.vm.findClass RX7 = some mM.cls := hown
  have hl : lv_has ls 3 [(0, .ref x0), (1, .int f), (2, .int am)] := hl
  have k65 := hts (.constant RX7 65 (-100001)) (List.mem_of_getElem? (i := 1) rfl)
  obtain ⟨hR, hW, hs0, hs1⟩ := id hF
  have hn60 := hW.n60
  have hb10 := hW.b10
  have hs8 := hW.s8
  have hhn := hW.hn
  have hcl := cntF_le (loudB s) (nB s)
  refine lv_iload_n hx hb dX7_fee_0 rfl (lv_at hl 1 rfl) ?_
  refine call_x (va_runS (As := [.int f]) (rest := []) ⟨hx, hb, hml, hown, hts⟩ (kX7_isPayer ln dg tq (v := f) H.size) (va_cwS 1 hts gX7_fee_X7_isPayer rfl rfl rfl hdX7_isPayer.2 ⟨Nat.le_of_ble_eq_true rfl, Nat.le_of_ble_eq_true rfl⟩) (preS0 hK hN [.int f]) rfl rfl hl.1 rfl (lv_room (Nat.le_of_ble_eq_true rfl)) dX7_fee_1 ⟨Nat.le_refl _, Nat.le_refl _⟩) hP hS hA (fun H locs hP hS => ?_)
  refine r_if_eq_b (tgt := 14) hx hb dX7_fee_4 (by decide) (fun c4 => ?_) (fun c4 => ?_)
  · skip
    refine lv_ldc hx hb hown k65 dX7_fee_14 ?_
    exact hret (-100001) (c, hc, st, nx, uf) H locs _ ls (show (-100001) = (feR s f am) ∧ (ACT s c hc st nx (feO s f am) (feS s f am) c hc st nx) from (⟨by simp [feR, feP, c4], ACT.no (by simp [feO, feP, c4])⟩)) rfl (hP.sub [0, 1, 2, 3, 4, 5, 6] rfl) (hD.sub [0, 1, 2, 3, 4, 5, 6] (by decide) rfl) hS dX7_fee_16
  · skip
    refine lv_iload_n hx hb dX7_fee_7 rfl (lv_at hl 2 rfl) ?_
    refine call_x (va_runS (As := [.int am]) (rest := []) ⟨hx, hb, hml, hown, hts⟩ (kX7_isSum ln dg tq (v := am) H.size) (va_cwS 1 hts gX7_fee_X7_isSum rfl rfl rfl hdX7_isSum.2 ⟨Nat.le_of_ble_eq_true rfl, Nat.le_of_ble_eq_true rfl⟩) (preS0 hK hN [.int am]) rfl rfl hl.1 rfl (lv_room (Nat.le_of_ble_eq_true rfl)) dX7_fee_8 ⟨Nat.le_refl _, Nat.le_refl _⟩) hP hS hA (fun H locs hP hS => ?_)
    refine r_if_ne_b (tgt := 17) hx hb dX7_fee_11 (by decide) (fun c11 => ?_) (fun c11 => ?_)
    · skip
      obtain ⟨fk_, hfk_1, hfk_2, rfl⟩ := inR_t (by omega) (by omega) c4
      obtain ⟨ak_, hak_1, hak_2, rfl⟩ := inR_t (by omega) (by omega) c11
      refine lv_aload_n hx hb dX7_fee_17 rfl (lv_at hl 0 rfl) ?_
      refine lv_iconst (v := (nI 3)) hx hb dX7_fee_18 (by decide) ?_
      refine lv_iload_n hx hb dX7_fee_19 rfl (lv_at hl 1 rfl) ?_
      refine lv_iconst (v := (nI 0)) hx hb dX7_fee_20 (by decide) ?_
      refine lv_iload_n hx hb dX7_fee_21 rfl (lv_at hl 2 rfl) ?_
      refine call_w (wr := []) (va_runV (As := [.int (nI 3), .int (nI fk_), .int (nI 0), .int (nI ak_)]) (rest := []) ⟨hx, hb, hml, hown, hts⟩ (kX7_write ln dg tq (x0 := x0) (xl := xl) (xh := xh) (xt := xt) (xp := xp) (xo := xo) (xu := xu) (xw := xw) (xlc := xlc) (c := c) (s := s) (hF := hF) (xhc := xhc) (st := st) (nx := nx) (hc := hc) (hst := (by omega)) (hnx := (by omega)) (xus := xus) (uf := uf) (k := 3) (f := fk_) (t := 0) (a := ak_) (hk := (by omega)) (hf := (by omega)) (ht := (by omega)) (ha := (by omega)) (hT := (fun h => by omega)) H.size) (cwV 4 hts gX7_fee_X7_write rfl rfl rfl hdX7_write ⟨Nat.le_of_ble_eq_true rfl, Nat.le_of_ble_eq_true rfl⟩) (preVB hK hN hP hD [0, 1, 2, 3, 4, 5, 6] rfl rfl rfl 0 rfl rfl [.int (nI 3), .int (nI fk_), .int (nI 0), .int (nI ak_)]) rfl rfl hl.1 rfl (lv_room (Nat.le_of_ble_eq_true rfl)) dX7_fee_22 ⟨Nat.le_refl _, Nat.le_refl _⟩) hP hD hS hA [0, 1, 2, 3, 4, 5, 6] [] rfl rfl (by decide) (by decide) (fun r22 u22 H locs hw22 hP hD hS => ?_)
      obtain ⟨c222, hc222, st222, nx222, uf222⟩ := u22
      have hP : va_P dg vwCl [(x0, .inr (7, [.ref xl, .ref xh, .ref xt, .ref xp, .ref xo, .ref xu, .ref xw])), (xl, .inr (1, [.ref xlc])), (xlc, .inl (tq.1, 1473, .inl c222)), (xh, .inr (0, [.ref xhc, .int (nI st222), .int (nI nx222)])), (xhc, .inl (tq.1, 7365, .inl hc222)), (xu, .inr (5, [.ref xus])), (xus, .inl (tq.1, 6, .inl uf222))] H := hP
      have hD : va_D AA [(x0, .inr (7, [.ref xl, .ref xh, .ref xt, .ref xp, .ref xo, .ref xu, .ref xw])), (xl, .inr (1, [.ref xlc])), (xlc, .inl (tq.1, 1473, .inl c222)), (xh, .inr (0, [.ref xhc, .int (nI st222), .int (nI nx222)])), (xhc, .inl (tq.1, 7365, .inl hc222)), (xu, .inr (5, [.ref xus])), (xus, .inl (tq.1, 6, .inl uf222))] := hD
      obtain ⟨hr22, hw22⟩ := hw22
      subst hr22
      exact hret (wrR s 3 fk_ ak_) (c222, hc222, st222, nx222, uf222) H locs _ ls (show (wrR s 3 fk_ ak_) = (feR s (nI fk_) (nI ak_)) ∧ (ACT s c hc st nx (feO s (nI fk_) (nI ak_)) (feS s (nI fk_) (nI ak_)) c222 hc222 st222 nx222) from (by unfold feR feO feS feP; rw [c4, c11, cl_n (show ak_ < 2147483648 by omega), cl_n (show fk_ < 2147483648 by omega)]; exact ⟨rfl, hw22⟩)) rfl (hP.sub [0, 1, 2, 3, 4, 5, 6] rfl) (hD.sub [0, 1, 2, 3, 4, 5, 6] (by decide) rfl) hS dX7_fee_25
    · skip
      refine lv_ldc hx hb hown k65 dX7_fee_14 ?_
      exact hret (-100001) (c, hc, st, nx, uf) H locs _ ls (show (-100001) = (feR s f am) ∧ (ACT s c hc st nx (feO s f am) (feS s f am) c hc st nx) from (⟨by simp [feR, feP, c4, c11], ACT.no (by simp [feO, feP, c4, c11])⟩)) rfl (hP.sub [0, 1, 2, 3, 4, 5, 6] rfl) (hD.sub [0, 1, 2, 3, 4, 5, 6] (by decide) rfl) hS dX7_fee_16
theorem hdX7_note : yX7_note.cls = RX7 ∧ yX7_note.cls ≠ "java/lang/invoke/MethodHandle" ∧ yX7_note.cls ≠ "java/lang/invoke/VarHandle" ∧ (parseMethodDescriptor yX7_note.desc).map (fun d => d.parameters.length) = some 1 := by decide +kernel
set_option maxHeartbeats 4000000 in
set_option maxRecDepth 100000 in
theorem kX7_note (ln : Launch) (dg : va_G) (tq : ClassId × ClassId) (x0 xl xh xt xp xo xu xw : Nat)(xlc : Nat) (c : Row) (s : Row) (hF : FS s c)(xhc : Nat) (st nx : Nat) (hc : Row) (hst : st ≤ 5) (hnx : nx < 5)(xus : Nat) (uf : Row) (am : Int32) : MW ln yX7_note wsX7_note (rmm 5 110) dg tq [.ref x0, .int am] [(x0, .inr (7, [.ref xl, .ref xh, .ref xt, .ref xp, .ref xo, .ref xu, .ref xw])), (xl, .inr (1, [.ref xlc])), (xlc, .inl (tq.1, 1473, .inl c)), (xh, .inr (0, [.ref xhc, .int (nI st), .int (nI nx)])), (xhc, .inl (tq.1, 7365, .inl hc)), (xu, .inr (5, [.ref xus])), (xus, .inl (tq.1, 6, .inl uf))] (fun (r : Int32) (u : Row × Row × Nat × Nat × Row) => r = (ntR s am) ∧ (ACT s c hc st nx (ntO s am) (ntS s am) u.1 u.2.1 u.2.2.1 u.2.2.2.1)) (fun u => [(x0, .inr (7, [.ref xl, .ref xh, .ref xt, .ref xp, .ref xo, .ref xu, .ref xw])), (xl, .inr (1, [.ref xlc])), (xlc, .inl (tq.1, 1473, .inl u.1)), (xh, .inr (0, [.ref xhc, .int (nI u.2.2.1), .int (nI u.2.2.2.1)])), (xhc, .inl (tq.1, 7365, .inl u.2.1)), (xu, .inr (5, [.ref xus])), (xus, .inl (tq.1, 6, .inl u.2.2.2.2))]) := by
  refine MW.enter cX7_note 2 .int (by decide) rfl rfl (Nat.le_of_ble_eq_true rfl) ?_
  intro pP eE sS mM aA bB mT cC QQ AA hA hAT hret H locs hP hD hS ls hl
  obtain ⟨hx, hb, hml, hown, hts, hK, hN⟩ := hAT
  have hown : sS.vm.findClass RX7 = some mM.cls := hown
  have hl : lv_has ls 2 [(0, .ref x0), (1, .int am)] := hl
  have k65 := hts (.constant RX7 65 (-100001)) (List.mem_of_getElem? (i := 1) rfl)
  obtain ⟨hR, hW, hs0, hs1⟩ := id hF
  have hn60 := hW.n60
  have hb10 := hW.b10
  have hs8 := hW.s8
  have hhn := hW.hn
  have hcl := cntF_le (loudB s) (nB s)
  refine lv_iload_n hx hb dX7_note_0 rfl (lv_at hl 1 rfl) ?_
  refine call_x (va_runS (As := [.int am]) (rest := []) ⟨hx, hb, hml, hown, hts⟩ (kX7_isCode ln dg tq (v := am) H.size) (va_cwS 1 hts gX7_note_X7_isCode rfl rfl rfl hdX7_isCode.2 ⟨Nat.le_of_ble_eq_true rfl, Nat.le_of_ble_eq_true rfl⟩) (preS0 hK hN [.int am]) rfl rfl hl.1 rfl (lv_room (Nat.le_of_ble_eq_true rfl)) dX7_note_1 ⟨Nat.le_refl _, Nat.le_refl _⟩) hP hS hA (fun H locs hP hS => ?_)
  refine r_if_ne_b (tgt := 10) hx hb dX7_note_4 (by decide) (fun c4 => ?_) (fun c4 => ?_)
  · skip
    obtain ⟨ak_, hak_1, hak_2, rfl⟩ := inR_t (by omega) (by omega) c4
    refine lv_aload_n hx hb dX7_note_10 rfl (lv_at hl 0 rfl) ?_
    refine lv_iconst (v := (nI 4)) hx hb dX7_note_11 (by decide) ?_
    refine lv_iconst (v := (nI 0)) hx hb dX7_note_12 (by decide) ?_
    refine lv_iconst (v := (nI 0)) hx hb dX7_note_13 (by decide) ?_
    refine lv_iload_n hx hb dX7_note_14 rfl (lv_at hl 1 rfl) ?_
    refine call_w (wr := []) (va_runV (As := [.int (nI 4), .int (nI 0), .int (nI 0), .int (nI ak_)]) (rest := []) ⟨hx, hb, hml, hown, hts⟩ (kX7_write ln dg tq (x0 := x0) (xl := xl) (xh := xh) (xt := xt) (xp := xp) (xo := xo) (xu := xu) (xw := xw) (xlc := xlc) (c := c) (s := s) (hF := hF) (xhc := xhc) (st := st) (nx := nx) (hc := hc) (hst := (by omega)) (hnx := (by omega)) (xus := xus) (uf := uf) (k := 4) (f := 0) (t := 0) (a := ak_) (hk := (by omega)) (hf := (by omega)) (ht := (by omega)) (ha := (by omega)) (hT := (fun h => by omega)) H.size) (cwV 4 hts gX7_note_X7_write rfl rfl rfl hdX7_write ⟨Nat.le_of_ble_eq_true rfl, Nat.le_of_ble_eq_true rfl⟩) (preVB hK hN hP hD [0, 1, 2, 3, 4, 5, 6] rfl rfl rfl 0 rfl rfl [.int (nI 4), .int (nI 0), .int (nI 0), .int (nI ak_)]) rfl rfl hl.1 rfl (lv_room (Nat.le_of_ble_eq_true rfl)) dX7_note_15 ⟨Nat.le_refl _, Nat.le_refl _⟩) hP hD hS hA [0, 1, 2, 3, 4, 5, 6] [] rfl rfl (by decide) (by decide) (fun r15 u15 H locs hw15 hP hD hS => ?_)
    obtain ⟨c215, hc215, st215, nx215, uf215⟩ := u15
    have hP : va_P dg vwCl [(x0, .inr (7, [.ref xl, .ref xh, .ref xt, .ref xp, .ref xo, .ref xu, .ref xw])), (xl, .inr (1, [.ref xlc])), (xlc, .inl (tq.1, 1473, .inl c215)), (xh, .inr (0, [.ref xhc, .int (nI st215), .int (nI nx215)])), (xhc, .inl (tq.1, 7365, .inl hc215)), (xu, .inr (5, [.ref xus])), (xus, .inl (tq.1, 6, .inl uf215))] H := hP
    have hD : va_D AA [(x0, .inr (7, [.ref xl, .ref xh, .ref xt, .ref xp, .ref xo, .ref xu, .ref xw])), (xl, .inr (1, [.ref xlc])), (xlc, .inl (tq.1, 1473, .inl c215)), (xh, .inr (0, [.ref xhc, .int (nI st215), .int (nI nx215)])), (xhc, .inl (tq.1, 7365, .inl hc215)), (xu, .inr (5, [.ref xus])), (xus, .inl (tq.1, 6, .inl uf215))] := hD
    obtain ⟨hr15, hw15⟩ := hw15
    subst hr15
    exact hret (wrR s 4 0 ak_) (c215, hc215, st215, nx215, uf215) H locs _ ls (show (wrR s 4 0 ak_) = (ntR s (nI ak_)) ∧ (ACT s c hc st nx (ntO s (nI ak_)) (ntS s (nI ak_)) c215 hc215 st215 nx215) from (by unfold ntR ntO ntS; rw [c4, cl_n (show ak_ < 2147483648 by omega)]; exact ⟨rfl, hw15⟩)) rfl (hP.sub [0, 1, 2, 3, 4, 5, 6] rfl) (hD.sub [0, 1, 2, 3, 4, 5, 6] (by decide) rfl) hS dX7_note_18
  · skip
    refine lv_ldc hx hb hown k65 dX7_note_7 ?_
    exact hret (-100001) (c, hc, st, nx, uf) H locs _ ls (show (-100001) = (ntR s am) ∧ (ACT s c hc st nx (ntO s am) (ntS s am) c hc st nx) from (⟨by simp [ntR, c4], ACT.no (by simp [ntO, c4])⟩)) rfl (hP.sub [0, 1, 2, 3, 4, 5, 6] rfl) (hD.sub [0, 1, 2, 3, 4, 5, 6] (by decide) rfl) hS dX7_note_9
