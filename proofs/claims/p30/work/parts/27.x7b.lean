theorem hdX7_goBack : yX7_goBack.cls = RX7 ∧ yX7_goBack.cls ≠ "java/lang/invoke/MethodHandle" ∧ yX7_goBack.cls ≠ "java/lang/invoke/VarHandle" ∧ (parseMethodDescriptor yX7_goBack.desc).map (fun d => d.parameters.length) = some 1 := by decide +kernel
set_option maxHeartbeats 4000000 in
set_option maxRecDepth 100000 in
theorem kX7_goBack (ln : Launch) (dg : va_G) (tq : ClassId × ClassId) (x0 xl xh xt xp xo xu xw : Nat)(xlc : Nat) (c : Row) (s : Row) (hF : FS s c)(xhc : Nat) (st nx : Nat) (hc : Row) (hst : st ≤ 5) (hnx : nx < 5)(xwe : Nat) (wl : Int32) (wf : Row) (x : Int32) : MW ln yX7_goBack wsX7_goBack (rmm 3 69) dg tq [.ref x0, .int x] [(x0, .inr (7, [.ref xl, .ref xh, .ref xt, .ref xp, .ref xo, .ref xu, .ref xw])), (xl, .inr (1, [.ref xlc])), (xlc, .inl (tq.1, 1473, .inl c)), (xh, .inr (0, [.ref xhc, .int (nI st), .int (nI nx)])), (xhc, .inl (tq.1, 7365, .inl hc)), (xw, .inr (3, [.ref xwe, .int wl])), (xwe, .inl (tq.1, 60, .inl wf))] (fun (r : Int32) (u : Row × Row × Nat × Nat × Int32 × Row) => r = (gbR s x) ∧ (ACT s c hc st nx (gbO s x) (gbS s x) u.1 u.2.1 u.2.2.1 u.2.2.2.1)) (fun u => [(x0, .inr (7, [.ref xl, .ref xh, .ref xt, .ref xp, .ref xo, .ref xu, .ref xw])), (xl, .inr (1, [.ref xlc])), (xlc, .inl (tq.1, 1473, .inl u.1)), (xh, .inr (0, [.ref xhc, .int (nI u.2.2.1), .int (nI u.2.2.2.1)])), (xhc, .inl (tq.1, 7365, .inl u.2.1)), (xw, .inr (3, [.ref xwe, .int u.2.2.2.2.1])), (xwe, .inl (tq.1, 60, .inl u.2.2.2.2.2))]) := by
  refine MW.enter cX7_goBack 5 .int (by decide) rfl rfl (Nat.le_of_ble_eq_true rfl) ?_
  intro pP eE sS mM aA bB mT cC QQ AA hA hAT hret H locs hP hD hS ls hl
  obtain ⟨hx, hb, hml, hown, hts, hK, hN⟩ := hAT
  have hown : sS.vm.findClass RX7 = some mM.cls := hown
  have hl : lv_has ls 5 [(0, .ref x0), (1, .int x)] := hl
  have in7 : ∀ w ∈ u_ws RX7 TX7 7, w ∈ wsX7_goBack := (fun _ h9 => List.mem_cons_of_mem _ (List.mem_append_left _ (List.mem_append_left _ (List.mem_append_left _ (List.mem_append_right _ h9)))))
  have f12 := hts (.fieldLink RX7 12 "OrphanChain" "ledger" "LOrphanChain$Ledger;") (List.mem_of_getElem? (i := 1) rfl)
  have f19 := hts (.fieldLink RX7 19 "OrphanChain" "history" "LOrphanChain$History;") (List.mem_of_getElem? (i := 5) rfl)
  have f54 := hts (.fieldLink RX7 54 "OrphanChain" "path" "LOrphanChain$Path;") (List.mem_of_getElem? (i := 6) rfl)
  have k96 := hts (.constant RX7 96 (-100003)) (List.mem_of_getElem? (i := 4) rfl)
  have k80 := hts (.constant RX7 80 (-100002)) (List.mem_of_getElem? (i := 3) rfl)
  have k65 := hts (.constant RX7 65 (-100001)) (List.mem_of_getElem? (i := 2) rfl)
  obtain ⟨hR, hW, hs0, hs1⟩ := id hF
  have hn60 := hW.n60
  have hb10 := hW.b10
  have hs8 := hW.s8
  have hhn := hW.hn
  have hcl := cntF_le (loudB s) (nB s)
  refine lv_aload_n hx hb dX7_goBack_0 rfl (lv_at hl 0 rfl) ?_
  refine va_get (D := dg) (ci := 7) (v := .ref xl) (C := RX7) (T := TX7) (N := 7) hx hb hts in7 hown hK hP 0 rfl rfl 0 (by decide) f12 (fun _ h9 => h9) rfl dX7_goBack_1 ?_
  refine lv_iload_n hx hb dX7_goBack_4 rfl (lv_at hl 1 rfl) ?_
  refine call_x (va_runV (As := [.int x]) (rest := []) ⟨hx, hb, hml, hown, hts⟩ (kX1_hasEntry ln dg tq (h0 := xl) (h1 := xlc) (c := c) (s := s) (hR := (by omega)) (hW := (by omega)) (x := x) H.size) (cwV 1 hts gX7_goBack_X1_hasEntry rfl rfl rfl hdX1_hasEntry ⟨Nat.le_of_ble_eq_true rfl, Nat.le_of_ble_eq_true rfl⟩) (preVR hK hN hP [1, 2] rfl 1 rfl rfl [.int x]) rfl rfl hl.1 rfl (lv_room (Nat.le_of_ble_eq_true rfl)) dX7_goBack_5 ⟨Nat.le_refl _, Nat.le_refl _⟩) hP hS hA (fun H locs hP hS => ?_)
  refine r_if_ne_b (tgt := 14) hx hb dX7_goBack_8 (by decide) (fun c8 => ?_) (fun c8 => ?_)
  · skip
    obtain ⟨ek_, hek, rfl⟩ := hasN_t c8
    refine lv_aload_n hx hb dX7_goBack_14 rfl (lv_at hl 0 rfl) ?_
    refine va_get (D := dg) (ci := 7) (v := .ref xl) (C := RX7) (T := TX7) (N := 7) hx hb hts in7 hown hK hP 0 rfl rfl 0 (by decide) f12 (fun _ h9 => h9) rfl dX7_goBack_15 ?_
    refine lv_iconst (v := (nI 1)) hx hb dX7_goBack_18 (by decide) ?_
    refine call_x (va_runV (As := [.int (nI 1)]) (rest := []) ⟨hx, hb, hml, hown, hts⟩ (kX1_number ln dg tq (h0 := xl) (h1 := xlc) (c := c) (k := 1) (hk := (by omega)) H.size) (cwV 1 hts gX7_goBack_X1_number rfl rfl rfl hdX1_number ⟨Nat.le_of_ble_eq_true rfl, Nat.le_of_ble_eq_true rfl⟩) (preVR hK hN hP [1, 2] rfl 1 rfl rfl [.int (nI 1)]) rfl rfl hl.1 rfl (lv_room (Nat.le_of_ble_eq_true rfl)) dX7_goBack_19 ⟨Nat.le_refl _, Nat.le_refl _⟩) hP hS hA (fun H locs hP hS => ?_)
    refine r_top (show (c 1) = (nI (hE s)) from (hR.hh hW)) ?_
    refine lv_istore_n (lv' := [(2, .int (nI (hE s))), (0, .ref x0), (1, .int (nI ek_))]) hx hb dX7_goBack_22 rfl hl (by decide) rfl (fun ls hl => ?_)
    refine lv_aload_n hx hb dX7_goBack_23 rfl (lv_at hl 1 rfl) ?_
    refine va_get (D := dg) (ci := 7) (v := .ref xl) (C := RX7) (T := TX7) (N := 7) hx hb hts in7 hown hK hP 0 rfl rfl 0 (by decide) f12 (fun _ h9 => h9) rfl dX7_goBack_24 ?_
    refine lv_iload_n hx hb dX7_goBack_27 rfl (lv_at hl 2 rfl) ?_
    refine lv_iload_n hx hb dX7_goBack_28 rfl (lv_at hl 0 rfl) ?_
    refine call_x (va_runV (As := [.int (nI ek_), .int (nI (hE s))]) (rest := []) ⟨hx, hb, hml, hown, hts⟩ (kX1_isOnPath ln dg tq (h0 := xl) (h1 := xlc) (c := c) (s := s) (hR := (by omega)) (hW := (by omega)) (x := ek_) (y := hE s) (hx := (by omega)) (hy := (by omega)) H.size) (cwV 2 hts gX7_goBack_X1_isOnPath rfl rfl rfl hdX1_isOnPath ⟨Nat.le_of_ble_eq_true rfl, Nat.le_of_ble_eq_true rfl⟩) (preVR hK hN hP [1, 2] rfl 1 rfl rfl [.int (nI ek_), .int (nI (hE s))]) rfl rfl hl.1 rfl (lv_room (Nat.le_of_ble_eq_true rfl)) dX7_goBack_29 ⟨Nat.le_refl _, Nat.le_refl _⟩) hP hS hA (fun H locs hP hS => ?_)
    refine r_if_ne_b (tgt := 38) hx hb dX7_goBack_32 (by decide) (fun c32 => ?_) (fun c32 => ?_)
    · skip
      refine lv_aload_n hx hb dX7_goBack_38 rfl (lv_at hl 1 rfl) ?_
      refine va_get (D := dg) (ci := 7) (v := .ref xl) (C := RX7) (T := TX7) (N := 7) hx hb hts in7 hown hK hP 0 rfl rfl 0 (by decide) f12 (fun _ h9 => h9) rfl dX7_goBack_39 ?_
      refine lv_iconst (v := (nI 3)) hx hb dX7_goBack_42 (by decide) ?_
      refine call_x (va_runV (As := [.int (nI 3)]) (rest := []) ⟨hx, hb, hml, hown, hts⟩ (kX1_number ln dg tq (h0 := xl) (h1 := xlc) (c := c) (k := 3) (hk := (by omega)) H.size) (cwV 1 hts gX7_goBack_X1_number rfl rfl rfl hdX1_number ⟨Nat.le_of_ble_eq_true rfl, Nat.le_of_ble_eq_true rfl⟩) (preVR hK hN hP [1, 2] rfl 1 rfl rfl [.int (nI 3)]) rfl rfl hl.1 rfl (lv_room (Nat.le_of_ble_eq_true rfl)) dX7_goBack_43 ⟨Nat.le_refl _, Nat.le_refl _⟩) hP hS hA (fun H locs hP hS => ?_)
      refine r_top (show (c 3) = (nI (nB s)) from (hR.bb hW)) ?_
      refine lv_istore_n (lv' := [(3, .int (nI (nB s))), (2, .int (nI (hE s))), (0, .ref x0), (1, .int (nI ek_))]) hx hb dX7_goBack_46 rfl hl (by decide) rfl (fun ls hl => ?_)
      refine lv_iload_n hx hb dX7_goBack_47 rfl (lv_at hl 3 rfl) ?_
      refine lv_iload_n hx hb dX7_goBack_48 rfl (lv_at hl 1 rfl) ?_
      refine r_icmp_eq (tgt := 61) hx hb (nI_tI (by omega)) (nI_tI (by omega)) dX7_goBack_49 (by decide) (fun c49 => ?_) (fun c49 => ?_)
      · skip
        refine lv_aload_n hx hb dX7_goBack_61 rfl (lv_at hl 2 rfl) ?_
        refine va_get (D := dg) (ci := 7) (v := .ref xh) (C := RX7) (T := TX7) (N := 7) hx hb hts in7 hown hK hP 0 rfl rfl 1 (by decide) f19 (fun _ h9 => h9) rfl dX7_goBack_62 ?_
        refine lv_aload_n hx hb dX7_goBack_65 rfl (lv_at hl 2 rfl) ?_
        refine va_get (D := dg) (ci := 7) (v := .ref xl) (C := RX7) (T := TX7) (N := 7) hx hb hts in7 hown hK hP 0 rfl rfl 0 (by decide) f12 (fun _ h9 => h9) rfl dX7_goBack_66 ?_
        refine call_v (wr := [(x0, .inr (7, [.ref xl, .ref xh, .ref xt, .ref xp, .ref xo, .ref xu, .ref xw])), (xw, .inr (3, [.ref xwe, .int wl])), (xwe, .inl (tq.1, 60, .inl wf))]) (va_runV (As := [.ref xl]) (rest := []) ⟨hx, hb, hml, hown, hts⟩ (kX0_remember ln dg tq (b0 := xh) (b1 := xhc) (st := st) (nx := nx) (hc := hc) (h0 := xl) (h1 := xlc) (c := c) (hst := (by omega)) (hnx := (by omega)) H.size) (cwV 1 hts gX7_goBack_X0_remember rfl rfl rfl hdX0_remember ⟨Nat.le_of_ble_eq_true rfl, Nat.le_of_ble_eq_true rfl⟩) (preVB hK hN hP hD [3, 4, 1, 2] rfl rfl rfl 3 rfl rfl [.ref xl]) rfl rfl hl.1 rfl (lv_room (Nat.le_of_ble_eq_true rfl)) dX7_goBack_69 ⟨Nat.le_refl _, Nat.le_refl _⟩) hP hD hS hA [3, 4, 1, 2] [0, 5, 6] rfl rfl (by decide) (by decide) (fun u69 H locs hw69 hP hD hS => ?_)
        have hP : va_P dg vwCl [(x0, .inr (7, [.ref xl, .ref xh, .ref xt, .ref xp, .ref xo, .ref xu, .ref xw])), (xw, .inr (3, [.ref xwe, .int wl])), (xwe, .inl (tq.1, 60, .inl wf)), (xh, .inr (0, [.ref xhc, .int (nI (recN st)), .int (nI ((nx + 1) % 5))])), (xhc, .inl (tq.1, 7365, .inl (va_cpy c hc 0 (nx * 1473) 1473))), (xl, .inr (1, [.ref xlc])), (xlc, .inl (tq.1, 1473, .inl c))] H := hP
        have hD : va_D AA [(x0, .inr (7, [.ref xl, .ref xh, .ref xt, .ref xp, .ref xo, .ref xu, .ref xw])), (xw, .inr (3, [.ref xwe, .int wl])), (xwe, .inl (tq.1, 60, .inl wf)), (xh, .inr (0, [.ref xhc, .int (nI (recN st)), .int (nI ((nx + 1) % 5))])), (xhc, .inl (tq.1, 7365, .inl (va_cpy c hc 0 (nx * 1473) 1473))), (xl, .inr (1, [.ref xlc])), (xlc, .inl (tq.1, 1473, .inl c))] := hD
        refine lv_iload_n hx hb dX7_goBack_72 rfl (lv_at hl 3 rfl) ?_
        refine lv_iload_n hx hb dX7_goBack_73 rfl (lv_at hl 1 rfl) ?_
        refine r_icmp_eq (tgt := 137) hx hb (nI_tI (by omega)) (nI_tI (by omega)) dX7_goBack_74 (by decide) (fun c74 => ?_) (fun c74 => False.elim (by omega))
        refine lv_iload_n hx hb dX7_goBack_137 rfl (lv_at hl 0 rfl) ?_
        exact hret (nI (nB s)) (c, (va_cpy c hc 0 (nx * 1473) 1473), (recN st), ((nx + 1) % 5), wl, wf) H locs _ ls (show (nI (nB s)) = (gbR s (nI ek_)) ∧ (ACT s c hc st nx (gbO s (nI ek_)) (gbS s (nI ek_)) c (va_cpy c hc 0 (nx * 1473) 1473) (recN st) ((nx + 1) % 5)) from (⟨by unfold gbR; rw [c8, if_pos rfl, cl_n (show ek_ < 2147483648 by omega), c32, if_pos rfl, if_neg (by omega)], ACT.yes (by unfold gbO gbX; rw [c8, cl_n (show ek_ < 2147483648 by omega), c32, decide_eq_true (show ek_ = hE s by omega)]; rfl) (by unfold gbS; rw [cl_n (show ek_ < 2147483648 by omega), if_pos (by omega)]; exact hF)⟩)) rfl (hP.sub [0, 5, 6, 3, 4, 1, 2] rfl) (hD.sub [0, 5, 6, 3, 4, 1, 2] (by decide) rfl) hS dX7_goBack_138
      · skip
        refine lv_iload_n hx hb dX7_goBack_52 rfl (lv_at hl 0 rfl) ?_
        refine lv_bipush (v := (nI 10)) hx hb dX7_goBack_53 (by decide) ?_
        refine r_icmp_lt (tgt := 61) hx hb (nI_tI (by omega)) (nI_tI (by omega)) dX7_goBack_55 (by decide) (fun c55 => ?_) (fun c55 => ?_)
        · skip
          refine lv_aload_n hx hb dX7_goBack_61 rfl (lv_at hl 2 rfl) ?_
          refine va_get (D := dg) (ci := 7) (v := .ref xh) (C := RX7) (T := TX7) (N := 7) hx hb hts in7 hown hK hP 0 rfl rfl 1 (by decide) f19 (fun _ h9 => h9) rfl dX7_goBack_62 ?_
          refine lv_aload_n hx hb dX7_goBack_65 rfl (lv_at hl 2 rfl) ?_
          refine va_get (D := dg) (ci := 7) (v := .ref xl) (C := RX7) (T := TX7) (N := 7) hx hb hts in7 hown hK hP 0 rfl rfl 0 (by decide) f12 (fun _ h9 => h9) rfl dX7_goBack_66 ?_
          refine call_v (wr := [(x0, .inr (7, [.ref xl, .ref xh, .ref xt, .ref xp, .ref xo, .ref xu, .ref xw])), (xw, .inr (3, [.ref xwe, .int wl])), (xwe, .inl (tq.1, 60, .inl wf))]) (va_runV (As := [.ref xl]) (rest := []) ⟨hx, hb, hml, hown, hts⟩ (kX0_remember ln dg tq (b0 := xh) (b1 := xhc) (st := st) (nx := nx) (hc := hc) (h0 := xl) (h1 := xlc) (c := c) (hst := (by omega)) (hnx := (by omega)) H.size) (cwV 1 hts gX7_goBack_X0_remember rfl rfl rfl hdX0_remember ⟨Nat.le_of_ble_eq_true rfl, Nat.le_of_ble_eq_true rfl⟩) (preVB hK hN hP hD [3, 4, 1, 2] rfl rfl rfl 3 rfl rfl [.ref xl]) rfl rfl hl.1 rfl (lv_room (Nat.le_of_ble_eq_true rfl)) dX7_goBack_69 ⟨Nat.le_refl _, Nat.le_refl _⟩) hP hD hS hA [3, 4, 1, 2] [0, 5, 6] rfl rfl (by decide) (by decide) (fun u69 H locs hw69 hP hD hS => ?_)
          have hP : va_P dg vwCl [(x0, .inr (7, [.ref xl, .ref xh, .ref xt, .ref xp, .ref xo, .ref xu, .ref xw])), (xw, .inr (3, [.ref xwe, .int wl])), (xwe, .inl (tq.1, 60, .inl wf)), (xh, .inr (0, [.ref xhc, .int (nI (recN st)), .int (nI ((nx + 1) % 5))])), (xhc, .inl (tq.1, 7365, .inl (va_cpy c hc 0 (nx * 1473) 1473))), (xl, .inr (1, [.ref xlc])), (xlc, .inl (tq.1, 1473, .inl c))] H := hP
          have hD : va_D AA [(x0, .inr (7, [.ref xl, .ref xh, .ref xt, .ref xp, .ref xo, .ref xu, .ref xw])), (xw, .inr (3, [.ref xwe, .int wl])), (xwe, .inl (tq.1, 60, .inl wf)), (xh, .inr (0, [.ref xhc, .int (nI (recN st)), .int (nI ((nx + 1) % 5))])), (xhc, .inl (tq.1, 7365, .inl (va_cpy c hc 0 (nx * 1473) 1473))), (xl, .inr (1, [.ref xlc])), (xlc, .inl (tq.1, 1473, .inl c))] := hD
          refine lv_iload_n hx hb dX7_goBack_72 rfl (lv_at hl 3 rfl) ?_
          refine lv_iload_n hx hb dX7_goBack_73 rfl (lv_at hl 1 rfl) ?_
          refine r_icmp_eq (tgt := 137) hx hb (nI_tI (by omega)) (nI_tI (by omega)) dX7_goBack_74 (by decide) (fun c74 => False.elim (by omega)) (fun c74 => ?_)
          obtain ⟨hd1, hd2, hd3⟩ := dep_on hW hW.hn c32
          have hd3 := hd3 (by omega)
          have hd4 := dep_ge1 s ek_
          have hdl := dep_le hW _ hW.hn
          refine lv_aload_n hx hb dX7_goBack_77 rfl (lv_at hl 2 rfl) ?_
          refine va_get (D := dg) (ci := 7) (v := .ref xl) (C := RX7) (T := TX7) (N := 7) hx hb hts in7 hown hK hP 0 rfl rfl 0 (by decide) f12 (fun _ h9 => h9) rfl dX7_goBack_78 ?_
          refine lv_iload_n hx hb dX7_goBack_81 rfl (lv_at hl 1 rfl) ?_
          refine call_x (va_runV (As := [.int (nI (hE s))]) (rest := []) ⟨hx, hb, hml, hown, hts⟩ (kX1_pathLength ln dg tq (h0 := xl) (h1 := xlc) (c := c) (s := s) (hR := (by omega)) (hW := (by omega)) (y := hE s) (hy := (by omega)) H.size) (cwV 1 hts gX7_goBack_X1_pathLength rfl rfl rfl hdX1_pathLength ⟨Nat.le_of_ble_eq_true rfl, Nat.le_of_ble_eq_true rfl⟩) (preVR hK hN hP [5, 6] rfl 5 rfl rfl [.int (nI (hE s))]) rfl rfl hl.1 rfl (lv_room (Nat.le_of_ble_eq_true rfl)) dX7_goBack_82 ⟨Nat.le_refl _, Nat.le_refl _⟩) hP hS hA (fun H locs hP hS => ?_)
          refine lv_aload_n hx hb dX7_goBack_85 rfl (lv_at hl 2 rfl) ?_
          refine va_get (D := dg) (ci := 7) (v := .ref xl) (C := RX7) (T := TX7) (N := 7) hx hb hts in7 hown hK hP 0 rfl rfl 0 (by decide) f12 (fun _ h9 => h9) rfl dX7_goBack_86 ?_
          refine lv_iload_n hx hb dX7_goBack_89 rfl (lv_at hl 3 rfl) ?_
          refine call_x (va_runV (As := [.int (nI ek_)]) (rest := [.int (nI (dep s (hE s)))]) ⟨hx, hb, hml, hown, hts⟩ (kX1_pathLength ln dg tq (h0 := xl) (h1 := xlc) (c := c) (s := s) (hR := (by omega)) (hW := (by omega)) (y := ek_) (hy := (by omega)) H.size) (cwV 1 hts gX7_goBack_X1_pathLength rfl rfl rfl hdX1_pathLength ⟨Nat.le_of_ble_eq_true rfl, Nat.le_of_ble_eq_true rfl⟩) (preVR hK hN hP [5, 6] rfl 5 rfl rfl [.int (nI ek_)]) rfl rfl hl.1 rfl (lv_room (Nat.le_of_ble_eq_true rfl)) dX7_goBack_90 ⟨Nat.le_refl _, Nat.le_refl _⟩) hP hS hA (fun H locs hP hS => ?_)
          refine r_isub_n hx hb (by omega) dX7_goBack_93 ?_
          refine lv_istore (lv' := [(4, .int (nI ((dep s (hE s)) - (dep s ek_)))), (3, .int (nI (nB s))), (2, .int (nI (hE s))), (0, .ref x0), (1, .int (nI ek_))]) hx hb dX7_goBack_94 hl (by decide) rfl (fun ls hl => ?_)
          refine lv_aload_n hx hb dX7_goBack_96 rfl (lv_at hl 3 rfl) ?_
          refine va_get (D := dg) (ci := 7) (v := .ref xw) (C := RX7) (T := TX7) (N := 7) hx hb hts in7 hown hK hP 0 rfl rfl 6 (by decide) f54 (fun _ h9 => h9) rfl dX7_goBack_97 ?_
          refine lv_aload_n hx hb dX7_goBack_100 rfl (lv_at hl 3 rfl) ?_
          refine va_get (D := dg) (ci := 7) (v := .ref xl) (C := RX7) (T := TX7) (N := 7) hx hb hts in7 hown hK hP 0 rfl rfl 0 (by decide) f12 (fun _ h9 => h9) rfl dX7_goBack_101 ?_
          refine lv_iload_n hx hb dX7_goBack_104 rfl (lv_at hl 2 rfl) ?_
          refine lv_iload hx hb dX7_goBack_105 (lv_at hl 0 rfl) ?_
          refine call_v (wr := [(x0, .inr (7, [.ref xl, .ref xh, .ref xt, .ref xp, .ref xo, .ref xu, .ref xw])), (xh, .inr (0, [.ref xhc, .int (nI (recN st)), .int (nI ((nx + 1) % 5))])), (xhc, .inl (tq.1, 7365, .inl (va_cpy c hc 0 (nx * 1473) 1473)))]) (va_runV (As := [.ref xl, .int (nI (hE s)), .int (nI ((dep s (hE s)) - (dep s ek_)))]) (rest := []) ⟨hx, hb, hml, hown, hts⟩ (kX3_trace ln dg tq (w0 := xw) (w1 := xwe) (len := wl) (pc := wf) (h0 := xl) (h1 := xlc) (c := c) (s := s) (hR := (by omega)) (hW := (by omega)) (leaf := hE s) (cnt := (dep s (hE s)) - (dep s ek_)) (hl0 := (by omega)) (hc0 := (by omega)) H.size) (cwV 3 hts gX7_goBack_X3_trace rfl rfl rfl hdX3_trace ⟨Nat.le_of_ble_eq_true rfl, Nat.le_of_ble_eq_true rfl⟩) (preVB hK hN hP hD [1, 2, 5, 6] rfl rfl rfl 1 rfl rfl [.ref xl, .int (nI (hE s)), .int (nI ((dep s (hE s)) - (dep s ek_)))]) rfl rfl hl.1 rfl (lv_room (Nat.le_of_ble_eq_true rfl)) dX7_goBack_107 ⟨Nat.le_refl _, Nat.le_refl _⟩) hP hD hS hA [1, 2, 5, 6] [0, 3, 4] rfl rfl (by decide) (by decide) (fun u107 H locs hw107 hP hD hS => ?_)
          obtain ⟨g107, rfl⟩ : ∃ z, z = u107 := ⟨_, rfl⟩
          have hP : va_P dg vwCl [(x0, .inr (7, [.ref xl, .ref xh, .ref xt, .ref xp, .ref xo, .ref xu, .ref xw])), (xh, .inr (0, [.ref xhc, .int (nI (recN st)), .int (nI ((nx + 1) % 5))])), (xhc, .inl (tq.1, 7365, .inl (va_cpy c hc 0 (nx * 1473) 1473))), (xw, .inr (3, [.ref xwe, .int (nI ((dep s (hE s)) - (dep s ek_)))])), (xwe, .inl (tq.1, 60, .inl g107)), (xl, .inr (1, [.ref xlc])), (xlc, .inl (tq.1, 1473, .inl c))] H := hP
          have hD : va_D AA [(x0, .inr (7, [.ref xl, .ref xh, .ref xt, .ref xp, .ref xo, .ref xu, .ref xw])), (xh, .inr (0, [.ref xhc, .int (nI (recN st)), .int (nI ((nx + 1) % 5))])), (xhc, .inl (tq.1, 7365, .inl (va_cpy c hc 0 (nx * 1473) 1473))), (xw, .inr (3, [.ref xwe, .int (nI ((dep s (hE s)) - (dep s ek_)))])), (xwe, .inl (tq.1, 60, .inl g107)), (xl, .inr (1, [.ref xlc])), (xlc, .inl (tq.1, 1473, .inl c))] := hD
          refine lv_aload_n hx hb dX7_goBack_110 rfl (lv_at hl 3 rfl) ?_
          refine va_get (D := dg) (ci := 7) (v := .ref xl) (C := RX7) (T := TX7) (N := 7) hx hb hts in7 hown hK hP 0 rfl rfl 0 (by decide) f12 (fun _ h9 => h9) rfl dX7_goBack_111 ?_
          refine lv_iload_n hx hb dX7_goBack_114 rfl (lv_at hl 2 rfl) ?_
          refine lv_iload hx hb dX7_goBack_115 (lv_at hl 0 rfl) ?_
          refine lv_aload_n hx hb dX7_goBack_117 rfl (lv_at hl 3 rfl) ?_
          refine va_get (D := dg) (ci := 7) (v := .ref xw) (C := RX7) (T := TX7) (N := 7) hx hb hts in7 hown hK hP 0 rfl rfl 6 (by decide) f54 (fun _ h9 => h9) rfl dX7_goBack_118 ?_
          refine lv_iconst (v := (nI 0)) hx hb dX7_goBack_121 (by decide) ?_
          refine call_x (va_runV (As := [.int (nI 0)]) (rest := [.int (nI ((dep s (hE s)) - (dep s ek_))), .int (nI (hE s)), .ref xl]) ⟨hx, hb, hml, hown, hts⟩ (kX3_at ln dg tq (w0 := xw) (w1 := xwe) (len := ((dep s (hE s)) - (dep s ek_))) (pc := g107) (k := 0) (hk := (by omega)) (hlen := (by omega)) H.size) (cwV 1 hts gX7_goBack_X3_at rfl rfl rfl hdX3_at ⟨Nat.le_of_ble_eq_true rfl, Nat.le_of_ble_eq_true rfl⟩) (preVR hK hN hP [3, 4] rfl 3 rfl rfl [.int (nI 0)]) rfl rfl hl.1 rfl (lv_room (Nat.le_of_ble_eq_true rfl)) dX7_goBack_122 ⟨Nat.le_refl _, Nat.le_refl _⟩) hP hS hA (fun H locs hP hS => ?_)
          refine r_top (show (g107 0) = (nI (up s (hE s) (dep s (hE s) - dep s ek_ - 1))) from (hw107 0 (by omega)).trans (by rw [Nat.sub_zero])) ?_
          refine call_v (wr := [(x0, .inr (7, [.ref xl, .ref xh, .ref xt, .ref xp, .ref xo, .ref xu, .ref xw])), (xh, .inr (0, [.ref xhc, .int (nI (recN st)), .int (nI ((nx + 1) % 5))])), (xhc, .inl (tq.1, 7365, .inl (va_cpy c hc 0 (nx * 1473) 1473))), (xw, .inr (3, [.ref xwe, .int (nI ((dep s (hE s)) - (dep s ek_)))])), (xwe, .inl (tq.1, 60, .inl g107))]) (va_runV (As := [.int (nI (hE s)), .int (nI ((dep s (hE s)) - (dep s ek_))), .int (nI (up s (hE s) (dep s (hE s) - dep s ek_ - 1)))]) (rest := []) ⟨hx, hb, hml, hown, hts⟩ (kX1_addBranch ln dg tq (h0 := xl) (h1 := xlc) (c := c) (s := s) (hR := (by omega)) (hW := (by omega)) (L := hE s) (N := (dep s (hE s)) - (dep s ek_)) (F := up s (hE s) (dep s (hE s) - dep s ek_ - 1)) (hn := (by omega)) H.size) (cwV 3 hts gX7_goBack_X1_addBranch rfl rfl rfl hdX1_addBranch ⟨Nat.le_of_ble_eq_true rfl, Nat.le_of_ble_eq_true rfl⟩) (preVB hK hN hP hD [5, 6] rfl rfl rfl 5 rfl rfl [.int (nI (hE s)), .int (nI ((dep s (hE s)) - (dep s ek_))), .int (nI (up s (hE s) (dep s (hE s) - dep s ek_ - 1)))]) rfl rfl hl.1 rfl (lv_room (Nat.le_of_ble_eq_true rfl)) dX7_goBack_125 ⟨Nat.le_refl _, Nat.le_refl _⟩) hP hD hS hA [5, 6] [0, 1, 2, 3, 4] rfl rfl (by decide) (by decide) (fun u125 H locs hw125 hP hD hS => ?_)
          have hP : va_P dg vwCl [(x0, .inr (7, [.ref xl, .ref xh, .ref xt, .ref xp, .ref xo, .ref xu, .ref xw])), (xh, .inr (0, [.ref xhc, .int (nI (recN st)), .int (nI ((nx + 1) % 5))])), (xhc, .inl (tq.1, 7365, .inl (va_cpy c hc 0 (nx * 1473) 1473))), (xw, .inr (3, [.ref xwe, .int (nI ((dep s (hE s)) - (dep s ek_)))])), (xwe, .inl (tq.1, 60, .inl g107)), (xl, .inr (1, [.ref xlc])), (xlc, .inl (tq.1, 1473, .inl (xbranchS s c (hE s) ((dep s (hE s)) - (dep s ek_)) (up s (hE s) (dep s (hE s) - dep s ek_ - 1)))))] H := hP
          have hD : va_D AA [(x0, .inr (7, [.ref xl, .ref xh, .ref xt, .ref xp, .ref xo, .ref xu, .ref xw])), (xh, .inr (0, [.ref xhc, .int (nI (recN st)), .int (nI ((nx + 1) % 5))])), (xhc, .inl (tq.1, 7365, .inl (va_cpy c hc 0 (nx * 1473) 1473))), (xw, .inr (3, [.ref xwe, .int (nI ((dep s (hE s)) - (dep s ek_)))])), (xwe, .inl (tq.1, 60, .inl g107)), (xl, .inr (1, [.ref xlc])), (xlc, .inl (tq.1, 1473, .inl (xbranchS s c (hE s) ((dep s (hE s)) - (dep s ek_)) (up s (hE s) (dep s (hE s) - dep s ek_ - 1)))))] := hD
          refine lv_aload_n hx hb dX7_goBack_128 rfl (lv_at hl 3 rfl) ?_
          refine va_get (D := dg) (ci := 7) (v := .ref xl) (C := RX7) (T := TX7) (N := 7) hx hb hts in7 hown hK hP 0 rfl rfl 0 (by decide) f12 (fun _ h9 => h9) rfl dX7_goBack_129 ?_
          refine lv_iconst (v := (nI 1)) hx hb dX7_goBack_132 (by decide) ?_
          refine lv_iload_n hx hb dX7_goBack_133 rfl (lv_at hl 4 rfl) ?_
          refine call_v (wr := [(x0, .inr (7, [.ref xl, .ref xh, .ref xt, .ref xp, .ref xo, .ref xu, .ref xw])), (xh, .inr (0, [.ref xhc, .int (nI (recN st)), .int (nI ((nx + 1) % 5))])), (xhc, .inl (tq.1, 7365, .inl (va_cpy c hc 0 (nx * 1473) 1473))), (xw, .inr (3, [.ref xwe, .int (nI ((dep s (hE s)) - (dep s ek_)))])), (xwe, .inl (tq.1, 60, .inl g107))]) (va_runV (As := [.int (nI 1), .int (nI ek_)]) (rest := []) ⟨hx, hb, hml, hown, hts⟩ (kX1_setNumber ln dg tq (h0 := xl) (h1 := xlc) (c := xbranchS s c (hE s) ((dep s (hE s)) - (dep s ek_)) (up s (hE s) (dep s (hE s) - dep s ek_ - 1))) (k := 1) (v := (nI ek_)) (hk := (by omega)) H.size) (cwV 2 hts gX7_goBack_X1_setNumber rfl rfl rfl hdX1_setNumber ⟨Nat.le_of_ble_eq_true rfl, Nat.le_of_ble_eq_true rfl⟩) (preVB hK hN hP hD [5, 6] rfl rfl rfl 5 rfl rfl [.int (nI 1), .int (nI ek_)]) rfl rfl hl.1 rfl (lv_room (Nat.le_of_ble_eq_true rfl)) dX7_goBack_134 ⟨Nat.le_refl _, Nat.le_refl _⟩) hP hD hS hA [5, 6] [0, 1, 2, 3, 4] rfl rfl (by decide) (by decide) (fun u134 H locs hw134 hP hD hS => ?_)
          have hP : va_P dg vwCl [(x0, .inr (7, [.ref xl, .ref xh, .ref xt, .ref xp, .ref xo, .ref xu, .ref xw])), (xh, .inr (0, [.ref xhc, .int (nI (recN st)), .int (nI ((nx + 1) % 5))])), (xhc, .inl (tq.1, 7365, .inl (va_cpy c hc 0 (nx * 1473) 1473))), (xw, .inr (3, [.ref xwe, .int (nI ((dep s (hE s)) - (dep s ek_)))])), (xwe, .inl (tq.1, 60, .inl g107)), (xl, .inr (1, [.ref xlc])), (xlc, .inl (tq.1, 1473, .inl (upd (xbranchS s c (hE s) ((dep s (hE s)) - (dep s ek_)) (up s (hE s) (dep s (hE s) - dep s ek_ - 1))) 1 (nI ek_))))] H := hP
          have hD : va_D AA [(x0, .inr (7, [.ref xl, .ref xh, .ref xt, .ref xp, .ref xo, .ref xu, .ref xw])), (xh, .inr (0, [.ref xhc, .int (nI (recN st)), .int (nI ((nx + 1) % 5))])), (xhc, .inl (tq.1, 7365, .inl (va_cpy c hc 0 (nx * 1473) 1473))), (xw, .inr (3, [.ref xwe, .int (nI ((dep s (hE s)) - (dep s ek_)))])), (xwe, .inl (tq.1, 60, .inl g107)), (xl, .inr (1, [.ref xlc])), (xlc, .inl (tq.1, 1473, .inl (upd (xbranchS s c (hE s) ((dep s (hE s)) - (dep s ek_)) (up s (hE s) (dep s (hE s) - dep s ek_ - 1))) 1 (nI ek_))))] := hD
          refine lv_iload_n hx hb dX7_goBack_137 rfl (lv_at hl 1 rfl) ?_
          exact hret (nI (nB s)) ((upd (xbranchS s c (hE s) ((dep s (hE s)) - (dep s ek_)) (up s (hE s) (dep s (hE s) - dep s ek_ - 1))) 1 (nI ek_)), (va_cpy c hc 0 (nx * 1473) 1473), (recN st), ((nx + 1) % 5), (nI ((dep s (hE s)) - (dep s ek_))), g107) H locs _ ls (show (nI (nB s)) = (gbR s (nI ek_)) ∧ (ACT s c hc st nx (gbO s (nI ek_)) (gbS s (nI ek_)) (upd (xbranchS s c (hE s) ((dep s (hE s)) - (dep s ek_)) (up s (hE s) (dep s (hE s) - dep s ek_ - 1))) 1 (nI ek_)) (va_cpy c hc 0 (nx * 1473) 1473) (recN st) ((nx + 1) % 5)) from (⟨by unfold gbR; rw [c8, if_pos rfl, cl_n (show ek_ < 2147483648 by omega), c32, if_pos rfl, if_neg (by omega)], ACT.yes (by unfold gbO gbX; rw [c8, cl_n (show ek_ < 2147483648 by omega), c32, decide_eq_false (show ¬ ek_ = hE s by omega), decide_eq_false (show ¬ nB s = 10 by omega)]; rfl) (by unfold gbS; rw [cl_n (show ek_ < 2147483648 by omega), if_neg (by omega)]; exact FS_gb hF (by omega) c32 (by omega) (by omega))⟩)) rfl (hP.sub [0, 5, 6, 1, 2, 3, 4] rfl) (hD.sub [0, 5, 6, 1, 2, 3, 4] (by decide) rfl) hS dX7_goBack_138
        · skip
          refine lv_ldc hx hb hown k96 dX7_goBack_58 ?_
          exact hret (-100003) (c, hc, st, nx, wl, wf) H locs _ ls (show (-100003) = (gbR s (nI ek_)) ∧ (ACT s c hc st nx (gbO s (nI ek_)) (gbS s (nI ek_)) c hc st nx) from (⟨by unfold gbR; rw [c8, if_pos rfl, cl_n (show ek_ < 2147483648 by omega), c32, if_pos rfl, if_pos (by omega)], ACT.no (by unfold gbO gbX; rw [c8, cl_n (show ek_ < 2147483648 by omega), c32, decide_eq_false (show ¬ ek_ = hE s by omega), decide_eq_true (show nB s = 10 by omega)]; rfl)⟩)) rfl (hP.sub [0, 1, 2, 3, 4, 5, 6] rfl) (hD.sub [0, 1, 2, 3, 4, 5, 6] (by decide) rfl) hS dX7_goBack_60
    · skip
      refine lv_ldc hx hb hown k80 dX7_goBack_35 ?_
      exact hret (-100002) (c, hc, st, nx, wl, wf) H locs _ ls (show (-100002) = (gbR s (nI ek_)) ∧ (ACT s c hc st nx (gbO s (nI ek_)) (gbS s (nI ek_)) c hc st nx) from (⟨by unfold gbR; rw [c8, if_pos rfl, cl_n (show ek_ < 2147483648 by omega), c32]; rfl, ACT.no (by unfold gbO gbX; rw [c8, cl_n (show ek_ < 2147483648 by omega), c32]; rfl)⟩)) rfl (hP.sub [0, 1, 2, 3, 4, 5, 6] rfl) (hD.sub [0, 1, 2, 3, 4, 5, 6] (by decide) rfl) hS dX7_goBack_37
  · skip
    refine lv_ldc hx hb hown k65 dX7_goBack_11 ?_
    exact hret (-100001) (c, hc, st, nx, wl, wf) H locs _ ls (show (-100001) = (gbR s x) ∧ (ACT s c hc st nx (gbO s x) (gbS s x) c hc st nx) from (⟨by unfold gbR; rw [c8]; rfl, ACT.no (by unfold gbO; rw [c8]; rfl)⟩)) rfl (hP.sub [0, 1, 2, 3, 4, 5, 6] rfl) (hD.sub [0, 1, 2, 3, 4, 5, 6] (by decide) rfl) hS dX7_goBack_13
theorem hdX7_setPatience : yX7_setPatience.cls = RX7 ∧ yX7_setPatience.cls ≠ "java/lang/invoke/MethodHandle" ∧ yX7_setPatience.cls ≠ "java/lang/invoke/VarHandle" ∧ (parseMethodDescriptor yX7_setPatience.desc).map (fun d => d.parameters.length) = some 1 := by decide +kernel
set_option maxHeartbeats 4000000 in
set_option maxRecDepth 100000 in
theorem kX7_setPatience (ln : Launch) (dg : va_G) (tq : ClassId × ClassId) (x0 xl xh xt xp xo xu xw : Nat)(xlc : Nat) (c : Row) (s : Row) (hF : FS s c)(xhc : Nat) (st nx : Nat) (hc : Row) (hst : st ≤ 5) (hnx : nx < 5) (x : Int32) : MW ln yX7_setPatience wsX7_setPatience (rmm 3 69) dg tq [.ref x0, .int x] [(x0, .inr (7, [.ref xl, .ref xh, .ref xt, .ref xp, .ref xo, .ref xu, .ref xw])), (xl, .inr (1, [.ref xlc])), (xlc, .inl (tq.1, 1473, .inl c)), (xh, .inr (0, [.ref xhc, .int (nI st), .int (nI nx)])), (xhc, .inl (tq.1, 7365, .inl hc))] (fun (r : Int32) (u : Row × Row × Nat × Nat) => r = (ptR s x) ∧ (ACT s c hc st nx (ptO x) (ptS s x) u.1 u.2.1 u.2.2.1 u.2.2.2)) (fun u => [(x0, .inr (7, [.ref xl, .ref xh, .ref xt, .ref xp, .ref xo, .ref xu, .ref xw])), (xl, .inr (1, [.ref xlc])), (xlc, .inl (tq.1, 1473, .inl u.1)), (xh, .inr (0, [.ref xhc, .int (nI u.2.2.1), .int (nI u.2.2.2)])), (xhc, .inl (tq.1, 7365, .inl u.2.1))]) := by
  refine MW.enter cX7_setPatience 3 .int (by decide) rfl rfl (Nat.le_of_ble_eq_true rfl) ?_
  intro pP eE sS mM aA bB mT cC QQ AA hA hAT hret H locs hP hD hS ls hl
  obtain ⟨hx, hb, hml, hown, hts, hK, hN⟩ := hAT
  have hown : sS.vm.findClass RX7 = some mM.cls := hown
  have hl : lv_has ls 3 [(0, .ref x0), (1, .int x)] := hl
  have in7 : ∀ w ∈ u_ws RX7 TX7 7, w ∈ wsX7_setPatience := (fun _ h9 => List.mem_cons_of_mem _ (List.mem_append_left _ (List.mem_append_left _ (List.mem_append_right _ h9))))
  have f19 := hts (.fieldLink RX7 19 "OrphanChain" "history" "LOrphanChain$History;") (List.mem_of_getElem? (i := 2) rfl)
  have f12 := hts (.fieldLink RX7 12 "OrphanChain" "ledger" "LOrphanChain$Ledger;") (List.mem_of_getElem? (i := 3) rfl)
  have k65 := hts (.constant RX7 65 (-100001)) (List.mem_of_getElem? (i := 1) rfl)
  obtain ⟨hR, hW, hs0, hs1⟩ := id hF
  have hn60 := hW.n60
  have hb10 := hW.b10
  have hs8 := hW.s8
  have hhn := hW.hn
  have hcl := cntF_le (loudB s) (nB s)
  refine lv_iload_n hx hb dX7_setPatience_0 rfl (lv_at hl 1 rfl) ?_
  refine lv_iconst (v := (nI 1)) hx hb dX7_setPatience_1 (by decide) ?_
  refine lv_bipush (v := (nI 30)) hx hb dX7_setPatience_2 (by decide) ?_
  refine call_x (va_runS (As := [.int x, .int (nI 1), .int (nI 30)]) (rest := []) ⟨hx, hb, hml, hown, hts⟩ (kX7_isWithin ln dg tq (v := x) (lo := (nI 1)) (hi := (nI 30)) H.size) (va_cwS 3 hts gX7_setPatience_X7_isWithin rfl rfl rfl hdX7_isWithin.2 ⟨Nat.le_of_ble_eq_true rfl, Nat.le_of_ble_eq_true rfl⟩) (preS0 hK hN [.int x, .int (nI 1), .int (nI 30)]) rfl rfl hl.1 rfl (lv_room (Nat.le_of_ble_eq_true rfl)) dX7_setPatience_4 ⟨Nat.le_refl _, Nat.le_refl _⟩) hP hS hA (fun H locs hP hS => ?_)
  refine r_if_ne_b (tgt := 13) hx hb dX7_setPatience_7 (by decide) (fun c7 => ?_) (fun c7 => ?_)
  · skip
    refine lv_aload_n hx hb dX7_setPatience_13 rfl (lv_at hl 0 rfl) ?_
    refine va_get (D := dg) (ci := 7) (v := .ref xh) (C := RX7) (T := TX7) (N := 7) hx hb hts in7 hown hK hP 0 rfl rfl 1 (by decide) f19 (fun _ h9 => h9) rfl dX7_setPatience_14 ?_
    refine lv_aload_n hx hb dX7_setPatience_17 rfl (lv_at hl 0 rfl) ?_
    refine va_get (D := dg) (ci := 7) (v := .ref xl) (C := RX7) (T := TX7) (N := 7) hx hb hts in7 hown hK hP 0 rfl rfl 0 (by decide) f12 (fun _ h9 => h9) rfl dX7_setPatience_18 ?_
    refine call_v (wr := [(x0, .inr (7, [.ref xl, .ref xh, .ref xt, .ref xp, .ref xo, .ref xu, .ref xw]))]) (va_runV (As := [.ref xl]) (rest := []) ⟨hx, hb, hml, hown, hts⟩ (kX0_remember ln dg tq (b0 := xh) (b1 := xhc) (st := st) (nx := nx) (hc := hc) (h0 := xl) (h1 := xlc) (c := c) (hst := (by omega)) (hnx := (by omega)) H.size) (cwV 1 hts gX7_setPatience_X0_remember rfl rfl rfl hdX0_remember ⟨Nat.le_of_ble_eq_true rfl, Nat.le_of_ble_eq_true rfl⟩) (preVB hK hN hP hD [3, 4, 1, 2] rfl rfl rfl 3 rfl rfl [.ref xl]) rfl rfl hl.1 rfl (lv_room (Nat.le_of_ble_eq_true rfl)) dX7_setPatience_21 ⟨Nat.le_refl _, Nat.le_refl _⟩) hP hD hS hA [3, 4, 1, 2] [0] rfl rfl (by decide) (by decide) (fun u21 H locs hw21 hP hD hS => ?_)
    have hP : va_P dg vwCl [(x0, .inr (7, [.ref xl, .ref xh, .ref xt, .ref xp, .ref xo, .ref xu, .ref xw])), (xh, .inr (0, [.ref xhc, .int (nI (recN st)), .int (nI ((nx + 1) % 5))])), (xhc, .inl (tq.1, 7365, .inl (va_cpy c hc 0 (nx * 1473) 1473))), (xl, .inr (1, [.ref xlc])), (xlc, .inl (tq.1, 1473, .inl c))] H := hP
    have hD : va_D AA [(x0, .inr (7, [.ref xl, .ref xh, .ref xt, .ref xp, .ref xo, .ref xu, .ref xw])), (xh, .inr (0, [.ref xhc, .int (nI (recN st)), .int (nI ((nx + 1) % 5))])), (xhc, .inl (tq.1, 7365, .inl (va_cpy c hc 0 (nx * 1473) 1473))), (xl, .inr (1, [.ref xlc])), (xlc, .inl (tq.1, 1473, .inl c))] := hD
    refine lv_aload_n hx hb dX7_setPatience_24 rfl (lv_at hl 0 rfl) ?_
    refine va_get (D := dg) (ci := 7) (v := .ref xl) (C := RX7) (T := TX7) (N := 7) hx hb hts in7 hown hK hP 0 rfl rfl 0 (by decide) f12 (fun _ h9 => h9) rfl dX7_setPatience_25 ?_
    refine lv_iconst (v := (nI 2)) hx hb dX7_setPatience_28 (by decide) ?_
    refine call_x (va_runV (As := [.int (nI 2)]) (rest := []) ⟨hx, hb, hml, hown, hts⟩ (kX1_number ln dg tq (h0 := xl) (h1 := xlc) (c := c) (k := 2) (hk := (by omega)) H.size) (cwV 1 hts gX7_setPatience_X1_number rfl rfl rfl hdX1_number ⟨Nat.le_of_ble_eq_true rfl, Nat.le_of_ble_eq_true rfl⟩) (preVR hK hN hP [3, 4] rfl 3 rfl rfl [.int (nI 2)]) rfl rfl hl.1 rfl (lv_room (Nat.le_of_ble_eq_true rfl)) dX7_setPatience_29 ⟨Nat.le_refl _, Nat.le_refl _⟩) hP hS hA (fun H locs hP hS => ?_)
    refine r_top (show (c 2) = (s 3) from hR.pt) ?_
    refine lv_istore_n (lv' := [(2, .int (s 3)), (0, .ref x0), (1, .int x)]) hx hb dX7_setPatience_32 rfl hl (by decide) rfl (fun ls hl => ?_)
    refine lv_aload_n hx hb dX7_setPatience_33 rfl (lv_at hl 1 rfl) ?_
    refine va_get (D := dg) (ci := 7) (v := .ref xl) (C := RX7) (T := TX7) (N := 7) hx hb hts in7 hown hK hP 0 rfl rfl 0 (by decide) f12 (fun _ h9 => h9) rfl dX7_setPatience_34 ?_
    refine lv_iconst (v := (nI 2)) hx hb dX7_setPatience_37 (by decide) ?_
    refine lv_iload_n hx hb dX7_setPatience_38 rfl (lv_at hl 2 rfl) ?_
    refine call_v (wr := [(x0, .inr (7, [.ref xl, .ref xh, .ref xt, .ref xp, .ref xo, .ref xu, .ref xw])), (xh, .inr (0, [.ref xhc, .int (nI (recN st)), .int (nI ((nx + 1) % 5))])), (xhc, .inl (tq.1, 7365, .inl (va_cpy c hc 0 (nx * 1473) 1473)))]) (va_runV (As := [.int (nI 2), .int x]) (rest := []) ⟨hx, hb, hml, hown, hts⟩ (kX1_setNumber ln dg tq (h0 := xl) (h1 := xlc) (c := c) (k := 2) (v := x) (hk := (by omega)) H.size) (cwV 2 hts gX7_setPatience_X1_setNumber rfl rfl rfl hdX1_setNumber ⟨Nat.le_of_ble_eq_true rfl, Nat.le_of_ble_eq_true rfl⟩) (preVB hK hN hP hD [3, 4] rfl rfl rfl 3 rfl rfl [.int (nI 2), .int x]) rfl rfl hl.1 rfl (lv_room (Nat.le_of_ble_eq_true rfl)) dX7_setPatience_39 ⟨Nat.le_refl _, Nat.le_refl _⟩) hP hD hS hA [3, 4] [0, 1, 2] rfl rfl (by decide) (by decide) (fun u39 H locs hw39 hP hD hS => ?_)
    have hP : va_P dg vwCl [(x0, .inr (7, [.ref xl, .ref xh, .ref xt, .ref xp, .ref xo, .ref xu, .ref xw])), (xh, .inr (0, [.ref xhc, .int (nI (recN st)), .int (nI ((nx + 1) % 5))])), (xhc, .inl (tq.1, 7365, .inl (va_cpy c hc 0 (nx * 1473) 1473))), (xl, .inr (1, [.ref xlc])), (xlc, .inl (tq.1, 1473, .inl (upd c 2 x)))] H := hP
    have hD : va_D AA [(x0, .inr (7, [.ref xl, .ref xh, .ref xt, .ref xp, .ref xo, .ref xu, .ref xw])), (xh, .inr (0, [.ref xhc, .int (nI (recN st)), .int (nI ((nx + 1) % 5))])), (xhc, .inl (tq.1, 7365, .inl (va_cpy c hc 0 (nx * 1473) 1473))), (xl, .inr (1, [.ref xlc])), (xlc, .inl (tq.1, 1473, .inl (upd c 2 x)))] := hD
    refine lv_iload_n hx hb dX7_setPatience_42 rfl (lv_at hl 0 rfl) ?_
    exact hret (s 3) ((upd c 2 x), (va_cpy c hc 0 (nx * 1473) 1473), (recN st), ((nx + 1) % 5)) H locs _ ls (show (s 3) = (ptR s x) ∧ (ACT s c hc st nx (ptO x) (ptS s x) (upd c 2 x) (va_cpy c hc 0 (nx * 1473) 1473) (recN st) ((nx + 1) % 5)) from (⟨by unfold ptR; rw [c7]; rfl, ACT.yes c7 (hF.keep (KS.u (KS.rf s) (by omega)) (KX.u (KX.rf c) (by omega)) (XR_pat hR hW x) (WF_pat hW x))⟩)) rfl (hP.sub [0, 3, 4, 1, 2] rfl) (hD.sub [0, 3, 4, 1, 2] (by decide) rfl) hS dX7_setPatience_43
  · skip
    refine lv_ldc hx hb hown k65 dX7_setPatience_10 ?_
    exact hret (-100001) (c, hc, st, nx) H locs _ ls (show (-100001) = (ptR s x) ∧ (ACT s c hc st nx (ptO x) (ptS s x) c hc st nx) from (⟨by unfold ptR; rw [c7]; rfl, ACT.no c7⟩)) rfl (hP.sub [0, 1, 2, 3, 4] rfl) (hD.sub [0, 1, 2, 3, 4] (by decide) rfl) hS dX7_setPatience_12
theorem hdX7_dismiss : yX7_dismiss.cls = RX7 ∧ yX7_dismiss.cls ≠ "java/lang/invoke/MethodHandle" ∧ yX7_dismiss.cls ≠ "java/lang/invoke/VarHandle" ∧ (parseMethodDescriptor yX7_dismiss.desc).map (fun d => d.parameters.length) = some 1 := by decide +kernel
set_option maxHeartbeats 4000000 in
set_option maxRecDepth 100000 in
theorem kX7_dismiss (ln : Launch) (dg : va_G) (tq : ClassId × ClassId) (x0 xl xh xt xp xo xu xw : Nat)(xlc : Nat) (c : Row) (s : Row) (hF : FS s c)(xhc : Nat) (st nx : Nat) (hc : Row) (hst : st ≤ 5) (hnx : nx < 5) (x : Int32) : MW ln yX7_dismiss wsX7_dismiss (rmm 3 70) dg tq [.ref x0, .int x] [(x0, .inr (7, [.ref xl, .ref xh, .ref xt, .ref xp, .ref xo, .ref xu, .ref xw])), (xl, .inr (1, [.ref xlc])), (xlc, .inl (tq.1, 1473, .inl c)), (xh, .inr (0, [.ref xhc, .int (nI st), .int (nI nx)])), (xhc, .inl (tq.1, 7365, .inl hc))] (fun (r : Int32) (u : Row × Row × Nat × Nat) => r = (dsR s x) ∧ (ACT s c hc st nx (dsO s x) (dsS s x) u.1 u.2.1 u.2.2.1 u.2.2.2)) (fun u => [(x0, .inr (7, [.ref xl, .ref xh, .ref xt, .ref xp, .ref xo, .ref xu, .ref xw])), (xl, .inr (1, [.ref xlc])), (xlc, .inl (tq.1, 1473, .inl u.1)), (xh, .inr (0, [.ref xhc, .int (nI u.2.2.1), .int (nI u.2.2.2)])), (xhc, .inl (tq.1, 7365, .inl u.2.1))]) := by
  refine MW.enter cX7_dismiss 2 .int (by decide) rfl rfl (Nat.le_of_ble_eq_true rfl) ?_
  intro pP eE sS mM aA bB mT cC QQ AA hA hAT hret H locs hP hD hS ls hl
  obtain ⟨hx, hb, hml, hown, hts, hK, hN⟩ := hAT
  have hown : sS.vm.findClass RX7 = some mM.cls := hown
  have hl : lv_has ls 2 [(0, .ref x0), (1, .int x)] := hl
  have in7 : ∀ w ∈ u_ws RX7 TX7 7, w ∈ wsX7_dismiss := (fun _ h9 => List.mem_cons_of_mem _ (List.mem_append_left _ (List.mem_append_left _ (List.mem_append_right _ h9))))
  have f12 := hts (.fieldLink RX7 12 "OrphanChain" "ledger" "LOrphanChain$Ledger;") (List.mem_of_getElem? (i := 1) rfl)
  have f19 := hts (.fieldLink RX7 19 "OrphanChain" "history" "LOrphanChain$History;") (List.mem_of_getElem? (i := 5) rfl)
  have k104 := hts (.constant RX7 104 (-100009)) (List.mem_of_getElem? (i := 6) rfl)
  have k96 := hts (.constant RX7 96 (-100003)) (List.mem_of_getElem? (i := 4) rfl)
  have k80 := hts (.constant RX7 80 (-100002)) (List.mem_of_getElem? (i := 3) rfl)
  have k65 := hts (.constant RX7 65 (-100001)) (List.mem_of_getElem? (i := 2) rfl)
  obtain ⟨hR, hW, hs0, hs1⟩ := id hF
  have hn60 := hW.n60
  have hb10 := hW.b10
  have hs8 := hW.s8
  have hhn := hW.hn
  have hcl := cntF_le (loudB s) (nB s)
  refine lv_aload_n hx hb dX7_dismiss_0 rfl (lv_at hl 0 rfl) ?_
  refine va_get (D := dg) (ci := 7) (v := .ref xl) (C := RX7) (T := TX7) (N := 7) hx hb hts in7 hown hK hP 0 rfl rfl 0 (by decide) f12 (fun _ h9 => h9) rfl dX7_dismiss_1 ?_
  refine lv_iload_n hx hb dX7_dismiss_4 rfl (lv_at hl 1 rfl) ?_
  refine call_x (va_runV (As := [.int x]) (rest := []) ⟨hx, hb, hml, hown, hts⟩ (kX1_hasBranch ln dg tq (h0 := xl) (h1 := xlc) (c := c) (s := s) (hR := (by omega)) (hW := (by omega)) (x := x) H.size) (cwV 1 hts gX7_dismiss_X1_hasBranch rfl rfl rfl hdX1_hasBranch ⟨Nat.le_of_ble_eq_true rfl, Nat.le_of_ble_eq_true rfl⟩) (preVR hK hN hP [1, 2] rfl 1 rfl rfl [.int x]) rfl rfl hl.1 rfl (lv_room (Nat.le_of_ble_eq_true rfl)) dX7_dismiss_5 ⟨Nat.le_refl _, Nat.le_refl _⟩) hP hS hA (fun H locs hP hS => ?_)
  refine r_if_ne_b (tgt := 14) hx hb dX7_dismiss_8 (by decide) (fun c8 => ?_) (fun c8 => ?_)
  · skip
    obtain ⟨bk_, hbk, rfl⟩ := hasN_t c8
    refine lv_aload_n hx hb dX7_dismiss_14 rfl (lv_at hl 0 rfl) ?_
    refine va_get (D := dg) (ci := 7) (v := .ref xl) (C := RX7) (T := TX7) (N := 7) hx hb hts in7 hown hK hP 0 rfl rfl 0 (by decide) f12 (fun _ h9 => h9) rfl dX7_dismiss_15 ?_
    refine lv_iload_n hx hb dX7_dismiss_18 rfl (lv_at hl 1 rfl) ?_
    refine call_x (va_runV (As := [.int (nI bk_)]) (rest := []) ⟨hx, hb, hml, hown, hts⟩ (kX1_isWaiting ln dg tq (h0 := xl) (h1 := xlc) (c := c) (s := s) (hR := (by omega)) (hW := (by omega)) (b := bk_) (hb0 := (by omega)) H.size) (cwV 1 hts gX7_dismiss_X1_isWaiting rfl rfl rfl hdX1_isWaiting ⟨Nat.le_of_ble_eq_true rfl, Nat.le_of_ble_eq_true rfl⟩) (preVR hK hN hP [1, 2] rfl 1 rfl rfl [.int (nI bk_)]) rfl rfl hl.1 rfl (lv_room (Nat.le_of_ble_eq_true rfl)) dX7_dismiss_19 ⟨Nat.le_refl _, Nat.le_refl _⟩) hP hS hA (fun H locs hP hS => ?_)
    refine r_if_ne_b (tgt := 28) hx hb dX7_dismiss_22 (by decide) (fun c22 => ?_) (fun c22 => ?_)
    · skip
      refine lv_aload_n hx hb dX7_dismiss_28 rfl (lv_at hl 0 rfl) ?_
      refine va_get (D := dg) (ci := 7) (v := .ref xl) (C := RX7) (T := TX7) (N := 7) hx hb hts in7 hown hK hP 0 rfl rfl 0 (by decide) f12 (fun _ h9 => h9) rfl dX7_dismiss_29 ?_
      refine call_x (va_runV (As := []) (rest := []) ⟨hx, hb, hml, hown, hts⟩ (kX1_room ln dg tq (h0 := xl) (h1 := xlc) (c := c) (s := s) (hR := (by omega)) (hW := (by omega)) H.size) (cwV 0 hts gX7_dismiss_X1_room rfl rfl rfl hdX1_room ⟨Nat.le_of_ble_eq_true rfl, Nat.le_of_ble_eq_true rfl⟩) (preVR hK hN hP [1, 2] rfl 1 rfl rfl []) rfl rfl hl.1 rfl (lv_room (Nat.le_of_ble_eq_true rfl)) dX7_dismiss_32 ⟨Nat.le_refl _, Nat.le_refl _⟩) hP hS hA (fun H locs hP hS => ?_)
      refine lv_iconst (v := (nI 1)) hx hb dX7_dismiss_35 (by decide) ?_
      refine r_icmp_ge (tgt := 42) hx hb (nI_tI (by omega)) (nI_tI (by omega)) dX7_dismiss_36 (by decide) (fun c36 => ?_) (fun c36 => ?_)
      · skip
        refine lv_aload_n hx hb dX7_dismiss_42 rfl (lv_at hl 0 rfl) ?_
        refine va_get (D := dg) (ci := 7) (v := .ref xh) (C := RX7) (T := TX7) (N := 7) hx hb hts in7 hown hK hP 0 rfl rfl 1 (by decide) f19 (fun _ h9 => h9) rfl dX7_dismiss_43 ?_
        refine lv_aload_n hx hb dX7_dismiss_46 rfl (lv_at hl 0 rfl) ?_
        refine va_get (D := dg) (ci := 7) (v := .ref xl) (C := RX7) (T := TX7) (N := 7) hx hb hts in7 hown hK hP 0 rfl rfl 0 (by decide) f12 (fun _ h9 => h9) rfl dX7_dismiss_47 ?_
        refine call_v (wr := [(x0, .inr (7, [.ref xl, .ref xh, .ref xt, .ref xp, .ref xo, .ref xu, .ref xw]))]) (va_runV (As := [.ref xl]) (rest := []) ⟨hx, hb, hml, hown, hts⟩ (kX0_remember ln dg tq (b0 := xh) (b1 := xhc) (st := st) (nx := nx) (hc := hc) (h0 := xl) (h1 := xlc) (c := c) (hst := (by omega)) (hnx := (by omega)) H.size) (cwV 1 hts gX7_dismiss_X0_remember rfl rfl rfl hdX0_remember ⟨Nat.le_of_ble_eq_true rfl, Nat.le_of_ble_eq_true rfl⟩) (preVB hK hN hP hD [3, 4, 1, 2] rfl rfl rfl 3 rfl rfl [.ref xl]) rfl rfl hl.1 rfl (lv_room (Nat.le_of_ble_eq_true rfl)) dX7_dismiss_50 ⟨Nat.le_refl _, Nat.le_refl _⟩) hP hD hS hA [3, 4, 1, 2] [0] rfl rfl (by decide) (by decide) (fun u50 H locs hw50 hP hD hS => ?_)
        have hP : va_P dg vwCl [(x0, .inr (7, [.ref xl, .ref xh, .ref xt, .ref xp, .ref xo, .ref xu, .ref xw])), (xh, .inr (0, [.ref xhc, .int (nI (recN st)), .int (nI ((nx + 1) % 5))])), (xhc, .inl (tq.1, 7365, .inl (va_cpy c hc 0 (nx * 1473) 1473))), (xl, .inr (1, [.ref xlc])), (xlc, .inl (tq.1, 1473, .inl c))] H := hP
        have hD : va_D AA [(x0, .inr (7, [.ref xl, .ref xh, .ref xt, .ref xp, .ref xo, .ref xu, .ref xw])), (xh, .inr (0, [.ref xhc, .int (nI (recN st)), .int (nI ((nx + 1) % 5))])), (xhc, .inl (tq.1, 7365, .inl (va_cpy c hc 0 (nx * 1473) 1473))), (xl, .inr (1, [.ref xlc])), (xlc, .inl (tq.1, 1473, .inl c))] := hD
        refine lv_aload_n hx hb dX7_dismiss_53 rfl (lv_at hl 0 rfl) ?_
        refine va_get (D := dg) (ci := 7) (v := .ref xl) (C := RX7) (T := TX7) (N := 7) hx hb hts in7 hown hK hP 0 rfl rfl 0 (by decide) f12 (fun _ h9 => h9) rfl dX7_dismiss_54 ?_
        refine lv_iload_n hx hb dX7_dismiss_57 rfl (lv_at hl 1 rfl) ?_
        refine lv_iconst (v := (nI 4)) hx hb dX7_dismiss_58 (by decide) ?_
        refine lv_iconst (v := (nI 3)) hx hb dX7_dismiss_59 (by decide) ?_
        refine call_v (wr := [(x0, .inr (7, [.ref xl, .ref xh, .ref xt, .ref xp, .ref xo, .ref xu, .ref xw])), (xh, .inr (0, [.ref xhc, .int (nI (recN st)), .int (nI ((nx + 1) % 5))])), (xhc, .inl (tq.1, 7365, .inl (va_cpy c hc 0 (nx * 1473) 1473)))]) (va_runV (As := [.int (nI bk_), .int (nI 4), .int (nI 3)]) (rest := []) ⟨hx, hb, hml, hown, hts⟩ (kX1_setOfBranch ln dg tq (h0 := xl) (h1 := xlc) (c := c) (e := bk_) (f := 4) (v := (nI 3)) (he := (by omega)) (hf := (by omega)) H.size) (cwV 3 hts gX7_dismiss_X1_setOfBranch rfl rfl rfl hdX1_setOfBranch ⟨Nat.le_of_ble_eq_true rfl, Nat.le_of_ble_eq_true rfl⟩) (preVB hK hN hP hD [3, 4] rfl rfl rfl 3 rfl rfl [.int (nI bk_), .int (nI 4), .int (nI 3)]) rfl rfl hl.1 rfl (lv_room (Nat.le_of_ble_eq_true rfl)) dX7_dismiss_60 ⟨Nat.le_refl _, Nat.le_refl _⟩) hP hD hS hA [3, 4] [0, 1, 2] rfl rfl (by decide) (by decide) (fun u60 H locs hw60 hP hD hS => ?_)
        have hP : va_P dg vwCl [(x0, .inr (7, [.ref xl, .ref xh, .ref xt, .ref xp, .ref xo, .ref xu, .ref xw])), (xh, .inr (0, [.ref xhc, .int (nI (recN st)), .int (nI ((nx + 1) % 5))])), (xhc, .inl (tq.1, 7365, .inl (va_cpy c hc 0 (nx * 1473) 1473))), (xl, .inr (1, [.ref xlc])), (xlc, .inl (tq.1, 1473, .inl (upd c (425 + bk_ * 5 + 4) (nI 3))))] H := hP
        have hD : va_D AA [(x0, .inr (7, [.ref xl, .ref xh, .ref xt, .ref xp, .ref xo, .ref xu, .ref xw])), (xh, .inr (0, [.ref xhc, .int (nI (recN st)), .int (nI ((nx + 1) % 5))])), (xhc, .inl (tq.1, 7365, .inl (va_cpy c hc 0 (nx * 1473) 1473))), (xl, .inr (1, [.ref xlc])), (xlc, .inl (tq.1, 1473, .inl (upd c (425 + bk_ * 5 + 4) (nI 3))))] := hD
        have eN : nE (upd s (425 + 4 * bk_ + 3) (nI 3)) = nE s := by unfold nE; rw [pk_un (by omega)]
        refine lv_aload_n hx hb dX7_dismiss_63 rfl (lv_at hl 0 rfl) ?_
        refine va_get (D := dg) (ci := 7) (v := .ref xl) (C := RX7) (T := TX7) (N := 7) hx hb hts in7 hown hK hP 0 rfl rfl 0 (by decide) f12 (fun _ h9 => h9) rfl dX7_dismiss_64 ?_
        refine lv_iconst (v := (nI 4)) hx hb dX7_dismiss_67 (by decide) ?_
        refine lv_iconst (v := (nI 0)) hx hb dX7_dismiss_68 (by decide) ?_
        refine lv_iconst (v := (nI 0)) hx hb dX7_dismiss_69 (by decide) ?_
        refine lv_aload_n hx hb dX7_dismiss_70 rfl (lv_at hl 0 rfl) ?_
        refine va_get (D := dg) (ci := 7) (v := .ref xl) (C := RX7) (T := TX7) (N := 7) hx hb hts in7 hown hK hP 0 rfl rfl 0 (by decide) f12 (fun _ h9 => h9) rfl dX7_dismiss_71 ?_
        refine lv_iload_n hx hb dX7_dismiss_74 rfl (lv_at hl 1 rfl) ?_
        refine lv_iconst (v := (nI 0)) hx hb dX7_dismiss_75 (by decide) ?_
        refine call_x (va_runV (As := [.int (nI bk_), .int (nI 0)]) (rest := [.int (nI 0), .int (nI 0), .int (nI 4), .ref xl]) ⟨hx, hb, hml, hown, hts⟩ (kX1_ofBranch ln dg tq (h0 := xl) (h1 := xlc) (c := upd c (425 + bk_ * 5 + 4) (nI 3)) (e := bk_) (f := 0) (he := (by omega)) (hf := (by omega)) H.size) (cwV 2 hts gX7_dismiss_X1_ofBranch rfl rfl rfl hdX1_ofBranch ⟨Nat.le_of_ble_eq_true rfl, Nat.le_of_ble_eq_true rfl⟩) (preVR hK hN hP [3, 4] rfl 3 rfl rfl [.int (nI bk_), .int (nI 0)]) rfl rfl hl.1 rfl (lv_room (Nat.le_of_ble_eq_true rfl)) dX7_dismiss_76 ⟨Nat.le_refl _, Nat.le_refl _⟩) hP hS hA (fun H locs hP hS => ?_)
        refine r_top (show ((upd c (425 + bk_ * 5 + 4) (nI 3)) (425 + bk_ * 5 + 0)) = (nI (lf s bk_)) from by rw [pk_un (by omega)]; exact hR.LF hW (by omega)) ?_
        refine lv_ldc hx hb hown k104 dX7_dismiss_79 ?_
        refine call_w (wr := [(x0, .inr (7, [.ref xl, .ref xh, .ref xt, .ref xp, .ref xo, .ref xu, .ref xw])), (xh, .inr (0, [.ref xhc, .int (nI (recN st)), .int (nI ((nx + 1) % 5))])), (xhc, .inl (tq.1, 7365, .inl (va_cpy c hc 0 (nx * 1473) 1473)))]) (va_runV (As := [.int (nI 4), .int (nI 0), .int (nI 0), .int (nI (lf s bk_)), .int (-100009)]) (rest := []) ⟨hx, hb, hml, hown, hts⟩ (kX1_addEntry ln dg tq (h0 := xl) (h1 := xlc) (c := upd c (425 + bk_ * 5 + 4) (nI 3)) (s := upd s (425 + 4 * bk_ + 3) (nI 3)) (hR := (XR_st hR hW (show bk_ < 10 by omega) (nI 3))) (hW := (WF_st hW (show bk_ < 10 by omega) (nI 3))) (k := (nI 4)) (f := (nI 0)) (t := (nI 0)) (a := (nI (lf s bk_))) (o := (-100009)) (hn := (by rw [eN]; omega)) H.size) (cwV 5 hts gX7_dismiss_X1_addEntry rfl rfl rfl hdX1_addEntry ⟨Nat.le_of_ble_eq_true rfl, Nat.le_of_ble_eq_true rfl⟩) (preVB hK hN hP hD [3, 4] rfl rfl rfl 3 rfl rfl [.int (nI 4), .int (nI 0), .int (nI 0), .int (nI (lf s bk_)), .int (-100009)]) rfl rfl hl.1 rfl (lv_room (Nat.le_of_ble_eq_true rfl)) dX7_dismiss_81 ⟨Nat.le_refl _, Nat.le_refl _⟩) hP hD hS hA [3, 4] [0, 1, 2] rfl rfl (by decide) (by decide) (fun r81 u81 H locs hw81 hP hD hS => ?_)
        have hP : va_P dg vwCl [(x0, .inr (7, [.ref xl, .ref xh, .ref xt, .ref xp, .ref xo, .ref xu, .ref xw])), (xh, .inr (0, [.ref xhc, .int (nI (recN st)), .int (nI ((nx + 1) % 5))])), (xhc, .inl (tq.1, 7365, .inl (va_cpy c hc 0 (nx * 1473) 1473))), (xl, .inr (1, [.ref xlc])), (xlc, .inl (tq.1, 1473, .inl (xputE (upd s (425 + 4 * bk_ + 3) (nI 3)) (upd c (425 + bk_ * 5 + 4) (nI 3)) (nI 4) (nI 0) (nI 0) (nI (lf s bk_)) (-100009))))] H := hP
        have hD : va_D AA [(x0, .inr (7, [.ref xl, .ref xh, .ref xt, .ref xp, .ref xo, .ref xu, .ref xw])), (xh, .inr (0, [.ref xhc, .int (nI (recN st)), .int (nI ((nx + 1) % 5))])), (xhc, .inl (tq.1, 7365, .inl (va_cpy c hc 0 (nx * 1473) 1473))), (xl, .inr (1, [.ref xlc])), (xlc, .inl (tq.1, 1473, .inl (xputE (upd s (425 + 4 * bk_ + 3) (nI 3)) (upd c (425 + bk_ * 5 + 4) (nI 3)) (nI 4) (nI 0) (nI 0) (nI (lf s bk_)) (-100009))))] := hD
        subst hw81
        refine r_top (show (nI (nE (upd s (425 + 4 * bk_ + 3) (nI 3)))) = (nI (nE s)) from by rw [eN]) ?_
        exact hret (nI (nE s)) ((xputE (upd s (425 + 4 * bk_ + 3) (nI 3)) (upd c (425 + bk_ * 5 + 4) (nI 3)) (nI 4) (nI 0) (nI 0) (nI (lf s bk_)) (-100009)), (va_cpy c hc 0 (nx * 1473) 1473), (recN st), ((nx + 1) % 5)) H locs _ ls (show (nI (nE s)) = (dsR s (nI bk_)) ∧ (ACT s c hc st nx (dsO s (nI bk_)) (dsS s (nI bk_)) (xputE (upd s (425 + 4 * bk_ + 3) (nI 3)) (upd c (425 + bk_ * 5 + 4) (nI 3)) (nI 4) (nI 0) (nI 0) (nI (lf s bk_)) (-100009)) (va_cpy c hc 0 (nx * 1473) 1473) (recN st) ((nx + 1) % 5)) from (⟨by unfold dsR; rw [c8, if_pos rfl, cl_n (show bk_ < 2147483648 by omega), c22, if_pos rfl, if_neg (by omega)], ACT.yes (by unfold dsO; rw [c8, cl_n (show bk_ < 2147483648 by omega), c22, decide_eq_false (show ¬ nE s = 60 by omega)]; rfl) (by unfold dsS; rw [cl_n (show bk_ < 2147483648 by omega)]; exact FS_ds hF (by omega) (by omega))⟩)) rfl (hP.sub [0, 3, 4, 1, 2] rfl) (hD.sub [0, 3, 4, 1, 2] (by decide) rfl) hS dX7_dismiss_84
      · skip
        refine lv_ldc hx hb hown k96 dX7_dismiss_39 ?_
        exact hret (-100003) (c, hc, st, nx) H locs _ ls (show (-100003) = (dsR s (nI bk_)) ∧ (ACT s c hc st nx (dsO s (nI bk_)) (dsS s (nI bk_)) c hc st nx) from (⟨by unfold dsR; rw [c8, if_pos rfl, cl_n (show bk_ < 2147483648 by omega), c22, if_pos rfl, if_pos (by omega)], ACT.no (by unfold dsO; rw [c8, cl_n (show bk_ < 2147483648 by omega), c22, decide_eq_true (show nE s = 60 by omega)]; rfl)⟩)) rfl (hP.sub [0, 1, 2, 3, 4] rfl) (hD.sub [0, 1, 2, 3, 4] (by decide) rfl) hS dX7_dismiss_41
    · skip
      refine lv_ldc hx hb hown k80 dX7_dismiss_25 ?_
      exact hret (-100002) (c, hc, st, nx) H locs _ ls (show (-100002) = (dsR s (nI bk_)) ∧ (ACT s c hc st nx (dsO s (nI bk_)) (dsS s (nI bk_)) c hc st nx) from (⟨by unfold dsR; rw [c8, if_pos rfl, cl_n (show bk_ < 2147483648 by omega), c22]; rfl, ACT.no (by unfold dsO; rw [c8, cl_n (show bk_ < 2147483648 by omega), c22]; rfl)⟩)) rfl (hP.sub [0, 1, 2, 3, 4] rfl) (hD.sub [0, 1, 2, 3, 4] (by decide) rfl) hS dX7_dismiss_27
  · skip
    refine lv_ldc hx hb hown k65 dX7_dismiss_11 ?_
    exact hret (-100001) (c, hc, st, nx) H locs _ ls (show (-100001) = (dsR s x) ∧ (ACT s c hc st nx (dsO s x) (dsS s x) c hc st nx) from (⟨by unfold dsR; rw [c8]; rfl, ACT.no (by unfold dsO; rw [c8]; rfl)⟩)) rfl (hP.sub [0, 1, 2, 3, 4] rfl) (hD.sub [0, 1, 2, 3, 4] (by decide) rfl) hS dX7_dismiss_13
theorem hdX7_seal : yX7_seal.cls = RX7 ∧ yX7_seal.cls ≠ "java/lang/invoke/MethodHandle" ∧ yX7_seal.cls ≠ "java/lang/invoke/VarHandle" ∧ (parseMethodDescriptor yX7_seal.desc).map (fun d => d.parameters.length) = some 0 := by decide +kernel
set_option maxHeartbeats 4000000 in
set_option maxRecDepth 100000 in
theorem kX7_seal (ln : Launch) (dg : va_G) (tq : ClassId × ClassId) (x0 xl xh xt xp xo xu xw : Nat)(xlc : Nat) (c : Row) (s : Row) (hF : FS s c)(xhc : Nat) (st nx : Nat) (hc : Row) (hst : st ≤ 5) (hnx : nx < 5) : MW ln yX7_seal wsX7_seal (rmm 3 69) dg tq [.ref x0] [(x0, .inr (7, [.ref xl, .ref xh, .ref xt, .ref xp, .ref xo, .ref xu, .ref xw])), (xl, .inr (1, [.ref xlc])), (xlc, .inl (tq.1, 1473, .inl c)), (xh, .inr (0, [.ref xhc, .int (nI st), .int (nI nx)])), (xhc, .inl (tq.1, 7365, .inl hc))] (fun (r : Int32) (u : Row × Row × Nat × Nat) => r = (slR s) ∧ (ACT s c hc st nx (slO s) (sealS s) u.1 u.2.1 u.2.2.1 u.2.2.2)) (fun u => [(x0, .inr (7, [.ref xl, .ref xh, .ref xt, .ref xp, .ref xo, .ref xu, .ref xw])), (xl, .inr (1, [.ref xlc])), (xlc, .inl (tq.1, 1473, .inl u.1)), (xh, .inr (0, [.ref xhc, .int (nI u.2.2.1), .int (nI u.2.2.2)])), (xhc, .inl (tq.1, 7365, .inl u.2.1))]) := by
  refine MW.enter cX7_seal 1 .int (by decide) rfl rfl (Nat.le_of_ble_eq_true rfl) ?_
  intro pP eE sS mM aA bB mT cC QQ AA hA hAT hret H locs hP hD hS ls hl
  obtain ⟨hx, hb, hml, hown, hts, hK, hN⟩ := hAT
  have hown : sS.vm.findClass RX7 = some mM.cls := hown
  have hl : lv_has ls 1 [(0, .ref x0)] := hl
  have in7 : ∀ w ∈ u_ws RX7 TX7 7, w ∈ wsX7_seal := (fun _ h9 => List.mem_cons_of_mem _ (List.mem_append_left _ (List.mem_append_left _ (List.mem_append_right _ h9))))
  have f12 := hts (.fieldLink RX7 12 "OrphanChain" "ledger" "LOrphanChain$Ledger;") (List.mem_of_getElem? (i := 1) rfl)
  have f19 := hts (.fieldLink RX7 19 "OrphanChain" "history" "LOrphanChain$History;") (List.mem_of_getElem? (i := 3) rfl)
  have k96 := hts (.constant RX7 96 (-100003)) (List.mem_of_getElem? (i := 2) rfl)
  obtain ⟨hR, hW, hs0, hs1⟩ := id hF
  have hn60 := hW.n60
  have hb10 := hW.b10
  have hs8 := hW.s8
  have hhn := hW.hn
  have hcl := cntF_le (loudB s) (nB s)
  refine lv_aload_n hx hb dX7_seal_0 rfl (lv_at hl 0 rfl) ?_
  refine va_get (D := dg) (ci := 7) (v := .ref xl) (C := RX7) (T := TX7) (N := 7) hx hb hts in7 hown hK hP 0 rfl rfl 0 (by decide) f12 (fun _ h9 => h9) rfl dX7_seal_1 ?_
  refine lv_iconst (v := (nI 4)) hx hb dX7_seal_4 (by decide) ?_
  refine call_x (va_runV (As := [.int (nI 4)]) (rest := []) ⟨hx, hb, hml, hown, hts⟩ (kX1_number ln dg tq (h0 := xl) (h1 := xlc) (c := c) (k := 4) (hk := (by omega)) H.size) (cwV 1 hts gX7_seal_X1_number rfl rfl rfl hdX1_number ⟨Nat.le_of_ble_eq_true rfl, Nat.le_of_ble_eq_true rfl⟩) (preVR hK hN hP [1, 2] rfl 1 rfl rfl [.int (nI 4)]) rfl rfl hl.1 rfl (lv_room (Nat.le_of_ble_eq_true rfl)) dX7_seal_5 ⟨Nat.le_refl _, Nat.le_refl _⟩) hP hS hA (fun H locs hP hS => ?_)
  refine r_top (show (c 4) = (nI (nS s)) from (hR.ss hW)) ?_
  refine lv_bipush (v := (nI 8)) hx hb dX7_seal_8 (by decide) ?_
  refine r_icmp_lt (tgt := 16) hx hb (nI_tI (by omega)) (nI_tI (by omega)) dX7_seal_10 (by decide) (fun c10 => ?_) (fun c10 => ?_)
  · skip
    refine lv_aload_n hx hb dX7_seal_16 rfl (lv_at hl 0 rfl) ?_
    refine va_get (D := dg) (ci := 7) (v := .ref xh) (C := RX7) (T := TX7) (N := 7) hx hb hts in7 hown hK hP 0 rfl rfl 1 (by decide) f19 (fun _ h9 => h9) rfl dX7_seal_17 ?_
    refine lv_aload_n hx hb dX7_seal_20 rfl (lv_at hl 0 rfl) ?_
    refine va_get (D := dg) (ci := 7) (v := .ref xl) (C := RX7) (T := TX7) (N := 7) hx hb hts in7 hown hK hP 0 rfl rfl 0 (by decide) f12 (fun _ h9 => h9) rfl dX7_seal_21 ?_
    refine call_v (wr := [(x0, .inr (7, [.ref xl, .ref xh, .ref xt, .ref xp, .ref xo, .ref xu, .ref xw]))]) (va_runV (As := [.ref xl]) (rest := []) ⟨hx, hb, hml, hown, hts⟩ (kX0_remember ln dg tq (b0 := xh) (b1 := xhc) (st := st) (nx := nx) (hc := hc) (h0 := xl) (h1 := xlc) (c := c) (hst := (by omega)) (hnx := (by omega)) H.size) (cwV 1 hts gX7_seal_X0_remember rfl rfl rfl hdX0_remember ⟨Nat.le_of_ble_eq_true rfl, Nat.le_of_ble_eq_true rfl⟩) (preVB hK hN hP hD [3, 4, 1, 2] rfl rfl rfl 3 rfl rfl [.ref xl]) rfl rfl hl.1 rfl (lv_room (Nat.le_of_ble_eq_true rfl)) dX7_seal_24 ⟨Nat.le_refl _, Nat.le_refl _⟩) hP hD hS hA [3, 4, 1, 2] [0] rfl rfl (by decide) (by decide) (fun u24 H locs hw24 hP hD hS => ?_)
    have hP : va_P dg vwCl [(x0, .inr (7, [.ref xl, .ref xh, .ref xt, .ref xp, .ref xo, .ref xu, .ref xw])), (xh, .inr (0, [.ref xhc, .int (nI (recN st)), .int (nI ((nx + 1) % 5))])), (xhc, .inl (tq.1, 7365, .inl (va_cpy c hc 0 (nx * 1473) 1473))), (xl, .inr (1, [.ref xlc])), (xlc, .inl (tq.1, 1473, .inl c))] H := hP
    have hD : va_D AA [(x0, .inr (7, [.ref xl, .ref xh, .ref xt, .ref xp, .ref xo, .ref xu, .ref xw])), (xh, .inr (0, [.ref xhc, .int (nI (recN st)), .int (nI ((nx + 1) % 5))])), (xhc, .inl (tq.1, 7365, .inl (va_cpy c hc 0 (nx * 1473) 1473))), (xl, .inr (1, [.ref xlc])), (xlc, .inl (tq.1, 1473, .inl c))] := hD
    refine lv_aload_n hx hb dX7_seal_27 rfl (lv_at hl 0 rfl) ?_
    refine va_get (D := dg) (ci := 7) (v := .ref xl) (C := RX7) (T := TX7) (N := 7) hx hb hts in7 hown hK hP 0 rfl rfl 0 (by decide) f12 (fun _ h9 => h9) rfl dX7_seal_28 ?_
    refine call_w (wr := [(x0, .inr (7, [.ref xl, .ref xh, .ref xt, .ref xp, .ref xo, .ref xu, .ref xw])), (xh, .inr (0, [.ref xhc, .int (nI (recN st)), .int (nI ((nx + 1) % 5))])), (xhc, .inl (tq.1, 7365, .inl (va_cpy c hc 0 (nx * 1473) 1473)))]) (va_runV (As := []) (rest := []) ⟨hx, hb, hml, hown, hts⟩ (kX1_addSeal ln dg tq (h0 := xl) (h1 := xlc) (c := c) (s := s) (hR := (by omega)) (hW := (by omega)) (hn := (by omega)) H.size) (cwV 0 hts gX7_seal_X1_addSeal rfl rfl rfl hdX1_addSeal ⟨Nat.le_of_ble_eq_true rfl, Nat.le_of_ble_eq_true rfl⟩) (preVB hK hN hP hD [3, 4] rfl rfl rfl 3 rfl rfl []) rfl rfl hl.1 rfl (lv_room (Nat.le_of_ble_eq_true rfl)) dX7_seal_31 ⟨Nat.le_refl _, Nat.le_refl _⟩) hP hD hS hA [3, 4] [0, 1, 2] rfl rfl (by decide) (by decide) (fun r31 u31 H locs hw31 hP hD hS => ?_)
    have hP : va_P dg vwCl [(x0, .inr (7, [.ref xl, .ref xh, .ref xt, .ref xp, .ref xo, .ref xu, .ref xw])), (xh, .inr (0, [.ref xhc, .int (nI (recN st)), .int (nI ((nx + 1) % 5))])), (xhc, .inl (tq.1, 7365, .inl (va_cpy c hc 0 (nx * 1473) 1473))), (xl, .inr (1, [.ref xlc])), (xlc, .inl (tq.1, 1473, .inl (xsealS s c)))] H := hP
    have hD : va_D AA [(x0, .inr (7, [.ref xl, .ref xh, .ref xt, .ref xp, .ref xo, .ref xu, .ref xw])), (xh, .inr (0, [.ref xhc, .int (nI (recN st)), .int (nI ((nx + 1) % 5))])), (xhc, .inl (tq.1, 7365, .inl (va_cpy c hc 0 (nx * 1473) 1473))), (xl, .inr (1, [.ref xlc])), (xlc, .inl (tq.1, 1473, .inl (xsealS s c)))] := hD
    subst hw31
    exact hret (nI (nS s)) ((xsealS s c), (va_cpy c hc 0 (nx * 1473) 1473), (recN st), ((nx + 1) % 5)) H locs _ ls (show (nI (nS s)) = (slR s) ∧ (ACT s c hc st nx (slO s) (sealS s) (xsealS s c) (va_cpy c hc 0 (nx * 1473) 1473) (recN st) ((nx + 1) % 5)) from (⟨by unfold slR; rw [if_neg (by omega)], ACT.yes (by unfold slO; rw [decide_eq_false (show ¬ nS s = 8 by omega)]; rfl) (hF.keep (KS_seal (by omega)) (KX_seal (by omega)) (XR_seal hR hW (by omega)) (WF_seal hW (by omega)))⟩)) rfl (hP.sub [0, 3, 4, 1, 2] rfl) (hD.sub [0, 3, 4, 1, 2] (by decide) rfl) hS dX7_seal_34
  · skip
    refine lv_ldc hx hb hown k96 dX7_seal_13 ?_
    exact hret (-100003) (c, hc, st, nx) H locs _ ls (show (-100003) = (slR s) ∧ (ACT s c hc st nx (slO s) (sealS s) c hc st nx) from (⟨by unfold slR; rw [if_pos (by omega)], ACT.no (by unfold slO; rw [decide_eq_true (show nS s = 8 by omega)]; rfl)⟩)) rfl (hP.sub [0, 1, 2, 3, 4] rfl) (hD.sub [0, 1, 2, 3, 4] (by decide) rfl) hS dX7_seal_15
theorem hdX7_take : yX7_take.cls = RX7 ∧ yX7_take.cls ≠ "java/lang/invoke/MethodHandle" ∧ yX7_take.cls ≠ "java/lang/invoke/VarHandle" ∧ (parseMethodDescriptor yX7_take.desc).map (fun d => d.parameters.length) = some 1 := by decide +kernel
set_option maxHeartbeats 4000000 in
set_option maxRecDepth 100000 in
theorem kX7_take (ln : Launch) (dg : va_G) (tq : ClassId × ClassId) (x0 xl xh xt xp xo xu xw : Nat)(xlc : Nat) (c : Row) (s : Row) (hF : FS s c)(xhc : Nat) (st nx : Nat) (hc : Row) (hst : st ≤ 5) (hnx : nx < 5) (x : Int32) : MW ln yX7_take wsX7_take (rmm 3 69) dg tq [.ref x0, .int x] [(x0, .inr (7, [.ref xl, .ref xh, .ref xt, .ref xp, .ref xo, .ref xu, .ref xw])), (xl, .inr (1, [.ref xlc])), (xlc, .inl (tq.1, 1473, .inl c)), (xh, .inr (0, [.ref xhc, .int (nI st), .int (nI nx)])), (xhc, .inl (tq.1, 7365, .inl hc))] (fun (r : Int32) (u : Row × Row × Nat × Nat) => r = (tkR s x) ∧ (ACT s c hc st nx (tkO x) (tkS s x) u.1 u.2.1 u.2.2.1 u.2.2.2)) (fun u => [(x0, .inr (7, [.ref xl, .ref xh, .ref xt, .ref xp, .ref xo, .ref xu, .ref xw])), (xl, .inr (1, [.ref xlc])), (xlc, .inl (tq.1, 1473, .inl u.1)), (xh, .inr (0, [.ref xhc, .int (nI u.2.2.1), .int (nI u.2.2.2)])), (xhc, .inl (tq.1, 7365, .inl u.2.1))]) := by
  refine MW.enter cX7_take 2 .int (by decide) rfl rfl (Nat.le_of_ble_eq_true rfl) ?_
  intro pP eE sS mM aA bB mT cC QQ AA hA hAT hret H locs hP hD hS ls hl
  obtain ⟨hx, hb, hml, hown, hts, hK, hN⟩ := hAT
  have hown : sS.vm.findClass RX7 = some mM.cls := hown
  have hl : lv_has ls 2 [(0, .ref x0), (1, .int x)] := hl
  have in7 : ∀ w ∈ u_ws RX7 TX7 7, w ∈ wsX7_take := (fun _ h9 => List.mem_cons_of_mem _ (List.mem_append_left _ (List.mem_append_left _ (List.mem_append_right _ h9))))
  have f19 := hts (.fieldLink RX7 19 "OrphanChain" "history" "LOrphanChain$History;") (List.mem_of_getElem? (i := 2) rfl)
  have f12 := hts (.fieldLink RX7 12 "OrphanChain" "ledger" "LOrphanChain$Ledger;") (List.mem_of_getElem? (i := 3) rfl)
  have k65 := hts (.constant RX7 65 (-100001)) (List.mem_of_getElem? (i := 1) rfl)
  obtain ⟨hR, hW, hs0, hs1⟩ := id hF
  have hn60 := hW.n60
  have hb10 := hW.b10
  have hs8 := hW.s8
  have hhn := hW.hn
  have hcl := cntF_le (loudB s) (nB s)
  refine lv_iload_n hx hb dX7_take_0 rfl (lv_at hl 1 rfl) ?_
  refine call_x (va_runS (As := [.int x]) (rest := []) ⟨hx, hb, hml, hown, hts⟩ (kX7_isSlot ln dg tq (v := x) H.size) (va_cwS 1 hts gX7_take_X7_isSlot rfl rfl rfl hdX7_isSlot.2 ⟨Nat.le_of_ble_eq_true rfl, Nat.le_of_ble_eq_true rfl⟩) (preS0 hK hN [.int x]) rfl rfl hl.1 rfl (lv_room (Nat.le_of_ble_eq_true rfl)) dX7_take_1 ⟨Nat.le_refl _, Nat.le_refl _⟩) hP hS hA (fun H locs hP hS => ?_)
  refine r_if_ne_b (tgt := 10) hx hb dX7_take_4 (by decide) (fun c4 => ?_) (fun c4 => ?_)
  · skip
    obtain ⟨jk_, hj1, hj2, rfl⟩ := inR_t (by omega) (by omega) c4
    refine lv_aload_n hx hb dX7_take_10 rfl (lv_at hl 0 rfl) ?_
    refine va_get (D := dg) (ci := 7) (v := .ref xh) (C := RX7) (T := TX7) (N := 7) hx hb hts in7 hown hK hP 0 rfl rfl 1 (by decide) f19 (fun _ h9 => h9) rfl dX7_take_11 ?_
    refine lv_aload_n hx hb dX7_take_14 rfl (lv_at hl 0 rfl) ?_
    refine va_get (D := dg) (ci := 7) (v := .ref xl) (C := RX7) (T := TX7) (N := 7) hx hb hts in7 hown hK hP 0 rfl rfl 0 (by decide) f12 (fun _ h9 => h9) rfl dX7_take_15 ?_
    refine call_v (wr := [(x0, .inr (7, [.ref xl, .ref xh, .ref xt, .ref xp, .ref xo, .ref xu, .ref xw]))]) (va_runV (As := [.ref xl]) (rest := []) ⟨hx, hb, hml, hown, hts⟩ (kX0_remember ln dg tq (b0 := xh) (b1 := xhc) (st := st) (nx := nx) (hc := hc) (h0 := xl) (h1 := xlc) (c := c) (hst := (by omega)) (hnx := (by omega)) H.size) (cwV 1 hts gX7_take_X0_remember rfl rfl rfl hdX0_remember ⟨Nat.le_of_ble_eq_true rfl, Nat.le_of_ble_eq_true rfl⟩) (preVB hK hN hP hD [3, 4, 1, 2] rfl rfl rfl 3 rfl rfl [.ref xl]) rfl rfl hl.1 rfl (lv_room (Nat.le_of_ble_eq_true rfl)) dX7_take_18 ⟨Nat.le_refl _, Nat.le_refl _⟩) hP hD hS hA [3, 4, 1, 2] [0] rfl rfl (by decide) (by decide) (fun u18 H locs hw18 hP hD hS => ?_)
    have hP : va_P dg vwCl [(x0, .inr (7, [.ref xl, .ref xh, .ref xt, .ref xp, .ref xo, .ref xu, .ref xw])), (xh, .inr (0, [.ref xhc, .int (nI (recN st)), .int (nI ((nx + 1) % 5))])), (xhc, .inl (tq.1, 7365, .inl (va_cpy c hc 0 (nx * 1473) 1473))), (xl, .inr (1, [.ref xlc])), (xlc, .inl (tq.1, 1473, .inl c))] H := hP
    have hD : va_D AA [(x0, .inr (7, [.ref xl, .ref xh, .ref xt, .ref xp, .ref xo, .ref xu, .ref xw])), (xh, .inr (0, [.ref xhc, .int (nI (recN st)), .int (nI ((nx + 1) % 5))])), (xhc, .inl (tq.1, 7365, .inl (va_cpy c hc 0 (nx * 1473) 1473))), (xl, .inr (1, [.ref xlc])), (xlc, .inl (tq.1, 1473, .inl c))] := hD
    refine lv_aload_n hx hb dX7_take_21 rfl (lv_at hl 0 rfl) ?_
    refine va_get (D := dg) (ci := 7) (v := .ref xl) (C := RX7) (T := TX7) (N := 7) hx hb hts in7 hown hK hP 0 rfl rfl 0 (by decide) f12 (fun _ h9 => h9) rfl dX7_take_22 ?_
    refine lv_iload_n hx hb dX7_take_25 rfl (lv_at hl 1 rfl) ?_
    refine call_v (wr := [(x0, .inr (7, [.ref xl, .ref xh, .ref xt, .ref xp, .ref xo, .ref xu, .ref xw])), (xh, .inr (0, [.ref xhc, .int (nI (recN st)), .int (nI ((nx + 1) % 5))])), (xhc, .inl (tq.1, 7365, .inl (va_cpy c hc 0 (nx * 1473) 1473)))]) (va_runV (As := [.int (nI jk_)]) (rest := []) ⟨hx, hb, hml, hown, hts⟩ (kX1_keepIn ln dg tq (h0 := xl) (h1 := xlc) (c := c) (s := s) (hF := hF) (j := jk_) (hj := (by omega)) H.size) (cwV 1 hts gX7_take_X1_keepIn rfl rfl rfl hdX1_keepIn ⟨Nat.le_of_ble_eq_true rfl, Nat.le_of_ble_eq_true rfl⟩) (preVB hK hN hP hD [3, 4] rfl rfl rfl 3 rfl rfl [.int (nI jk_)]) rfl rfl hl.1 rfl (lv_room (Nat.le_of_ble_eq_true rfl)) dX7_take_26 ⟨Nat.le_refl _, Nat.le_refl _⟩) hP hD hS hA [3, 4] [0, 1, 2] rfl rfl (by decide) (by decide) (fun u26 H locs hw26 hP hD hS => ?_)
    have hP : va_P dg vwCl [(x0, .inr (7, [.ref xl, .ref xh, .ref xt, .ref xp, .ref xo, .ref xu, .ref xw])), (xh, .inr (0, [.ref xhc, .int (nI (recN st)), .int (nI ((nx + 1) % 5))])), (xhc, .inl (tq.1, 7365, .inl (va_cpy c hc 0 (nx * 1473) 1473))), (xl, .inr (1, [.ref xlc])), (xlc, .inl (tq.1, 1473, .inl (va_cpy c c 0 ((1 + jk_) * 491) 491)))] H := hP
    have hD : va_D AA [(x0, .inr (7, [.ref xl, .ref xh, .ref xt, .ref xp, .ref xo, .ref xu, .ref xw])), (xh, .inr (0, [.ref xhc, .int (nI (recN st)), .int (nI ((nx + 1) % 5))])), (xhc, .inl (tq.1, 7365, .inl (va_cpy c hc 0 (nx * 1473) 1473))), (xl, .inr (1, [.ref xlc])), (xlc, .inl (tq.1, 1473, .inl (va_cpy c c 0 ((1 + jk_) * 491) 491)))] := hD
    refine lv_aload_n hx hb dX7_take_29 rfl (lv_at hl 0 rfl) ?_
    refine va_get (D := dg) (ci := 7) (v := .ref xl) (C := RX7) (T := TX7) (N := 7) hx hb hts in7 hown hK hP 0 rfl rfl 0 (by decide) f12 (fun _ h9 => h9) rfl dX7_take_30 ?_
    refine lv_iconst (v := (nI 0)) hx hb dX7_take_33 (by decide) ?_
    refine call_x (va_runV (As := [.int (nI 0)]) (rest := []) ⟨hx, hb, hml, hown, hts⟩ (kX1_number ln dg tq (h0 := xl) (h1 := xlc) (c := va_cpy c c 0 ((1 + jk_) * 491) 491) (k := 0) (hk := (by omega)) H.size) (cwV 1 hts gX7_take_X1_number rfl rfl rfl hdX1_number ⟨Nat.le_of_ble_eq_true rfl, Nat.le_of_ble_eq_true rfl⟩) (preVR hK hN hP [3, 4] rfl 3 rfl rfl [.int (nI 0)]) rfl rfl hl.1 rfl (lv_room (Nat.le_of_ble_eq_true rfl)) dX7_take_34 ⟨Nat.le_refl _, Nat.le_refl _⟩) hP hS hA (fun H locs hP hS => ?_)
    refine r_top (show ((va_cpy c c 0 ((1 + jk_) * 491) 491) 0) = (nI (nE s)) from by rw [pk_cpy_out (by omega)]; exact hR.nn hW) ?_
    exact hret (nI (nE s)) ((va_cpy c c 0 ((1 + jk_) * 491) 491), (va_cpy c hc 0 (nx * 1473) 1473), (recN st), ((nx + 1) % 5)) H locs _ ls (show (nI (nE s)) = (tkR s (nI jk_)) ∧ (ACT s c hc st nx (tkO (nI jk_)) (tkS s (nI jk_)) (va_cpy c c 0 ((1 + jk_) * 491) 491) (va_cpy c hc 0 (nx * 1473) 1473) (recN st) ((nx + 1) % 5)) from (⟨by unfold tkR; rw [c4]; rfl, ACT.yes c4 (FS_tk hF (by omega))⟩)) rfl (hP.sub [0, 3, 4, 1, 2] rfl) (hD.sub [0, 3, 4, 1, 2] (by decide) rfl) hS dX7_take_37
  · skip
    refine lv_ldc hx hb hown k65 dX7_take_7 ?_
    exact hret (-100001) (c, hc, st, nx) H locs _ ls (show (-100001) = (tkR s x) ∧ (ACT s c hc st nx (tkO x) (tkS s x) c hc st nx) from (⟨by unfold tkR; rw [c4]; rfl, ACT.no c4⟩)) rfl (hP.sub [0, 1, 2, 3, 4] rfl) (hD.sub [0, 1, 2, 3, 4] (by decide) rfl) hS dX7_take_9
theorem hdX7_restore : yX7_restore.cls = RX7 ∧ yX7_restore.cls ≠ "java/lang/invoke/MethodHandle" ∧ yX7_restore.cls ≠ "java/lang/invoke/VarHandle" ∧ (parseMethodDescriptor yX7_restore.desc).map (fun d => d.parameters.length) = some 1 := by decide +kernel
set_option maxHeartbeats 4000000 in
set_option maxRecDepth 100000 in
theorem kX7_restore (ln : Launch) (dg : va_G) (tq : ClassId × ClassId) (x0 xl xh xt xp xo xu xw : Nat)(xlc : Nat) (c : Row) (s : Row) (hF : FS s c)(xhc : Nat) (st nx : Nat) (hc : Row) (hst : st ≤ 5) (hnx : nx < 5) (x : Int32) : MW ln yX7_restore wsX7_restore (rmm 4 84) dg tq [.ref x0, .int x] [(x0, .inr (7, [.ref xl, .ref xh, .ref xt, .ref xp, .ref xo, .ref xu, .ref xw])), (xl, .inr (1, [.ref xlc])), (xlc, .inl (tq.1, 1473, .inl c)), (xh, .inr (0, [.ref xhc, .int (nI st), .int (nI nx)])), (xhc, .inl (tq.1, 7365, .inl hc))] (fun (r : Int32) (u : Row × Row × Nat × Nat) => r = (rsR s x) ∧ (ACT s c hc st nx (rsO s x) (rsS s x) u.1 u.2.1 u.2.2.1 u.2.2.2)) (fun u => [(x0, .inr (7, [.ref xl, .ref xh, .ref xt, .ref xp, .ref xo, .ref xu, .ref xw])), (xl, .inr (1, [.ref xlc])), (xlc, .inl (tq.1, 1473, .inl u.1)), (xh, .inr (0, [.ref xhc, .int (nI u.2.2.1), .int (nI u.2.2.2)])), (xhc, .inl (tq.1, 7365, .inl u.2.1))]) := by
  refine MW.enter cX7_restore 2 .int (by decide) rfl rfl (Nat.le_of_ble_eq_true rfl) ?_
  intro pP eE sS mM aA bB mT cC QQ AA hA hAT hret H locs hP hD hS ls hl
  obtain ⟨hx, hb, hml, hown, hts, hK, hN⟩ := hAT
  have hown : sS.vm.findClass RX7 = some mM.cls := hown
  have hl : lv_has ls 2 [(0, .ref x0), (1, .int x)] := hl
  have in7 : ∀ w ∈ u_ws RX7 TX7 7, w ∈ wsX7_restore := (fun _ h9 => List.mem_cons_of_mem _ (List.mem_append_left _ (List.mem_append_left _ (List.mem_append_right _ h9))))
  have f12 := hts (.fieldLink RX7 12 "OrphanChain" "ledger" "LOrphanChain$Ledger;") (List.mem_of_getElem? (i := 2) rfl)
  have f19 := hts (.fieldLink RX7 19 "OrphanChain" "history" "LOrphanChain$History;") (List.mem_of_getElem? (i := 4) rfl)
  have k80 := hts (.constant RX7 80 (-100002)) (List.mem_of_getElem? (i := 3) rfl)
  have k65 := hts (.constant RX7 65 (-100001)) (List.mem_of_getElem? (i := 1) rfl)
  obtain ⟨hR, hW, hs0, hs1⟩ := id hF
  have hn60 := hW.n60
  have hb10 := hW.b10
  have hs8 := hW.s8
  have hhn := hW.hn
  have hcl := cntF_le (loudB s) (nB s)
  refine lv_iload_n hx hb dX7_restore_0 rfl (lv_at hl 1 rfl) ?_
  refine call_x (va_runS (As := [.int x]) (rest := []) ⟨hx, hb, hml, hown, hts⟩ (kX7_isSlot ln dg tq (v := x) H.size) (va_cwS 1 hts gX7_restore_X7_isSlot rfl rfl rfl hdX7_isSlot.2 ⟨Nat.le_of_ble_eq_true rfl, Nat.le_of_ble_eq_true rfl⟩) (preS0 hK hN [.int x]) rfl rfl hl.1 rfl (lv_room (Nat.le_of_ble_eq_true rfl)) dX7_restore_1 ⟨Nat.le_refl _, Nat.le_refl _⟩) hP hS hA (fun H locs hP hS => ?_)
  refine r_if_ne_b (tgt := 10) hx hb dX7_restore_4 (by decide) (fun c4 => ?_) (fun c4 => ?_)
  · skip
    obtain ⟨jk_, hj1, hj2, rfl⟩ := inR_t (by omega) (by omega) c4
    refine lv_aload_n hx hb dX7_restore_10 rfl (lv_at hl 0 rfl) ?_
    refine va_get (D := dg) (ci := 7) (v := .ref xl) (C := RX7) (T := TX7) (N := 7) hx hb hts in7 hown hK hP 0 rfl rfl 0 (by decide) f12 (fun _ h9 => h9) rfl dX7_restore_11 ?_
    refine lv_iload_n hx hb dX7_restore_14 rfl (lv_at hl 1 rfl) ?_
    refine call_x (va_runV (As := [.int (nI jk_)]) (rest := []) ⟨hx, hb, hml, hown, hts⟩ (kX1_isEmpty ln dg tq (h0 := xl) (h1 := xlc) (c := c) (s := s) (hF := hF) (j := jk_) (hj := (by omega)) H.size) (cwV 1 hts gX7_restore_X1_isEmpty rfl rfl rfl hdX1_isEmpty ⟨Nat.le_of_ble_eq_true rfl, Nat.le_of_ble_eq_true rfl⟩) (preVR hK hN hP [1, 2] rfl 1 rfl rfl [.int (nI jk_)]) rfl rfl hl.1 rfl (lv_room (Nat.le_of_ble_eq_true rfl)) dX7_restore_15 ⟨Nat.le_refl _, Nat.le_refl _⟩) hP hS hA (fun H locs hP hS => ?_)
    refine r_if_eq_b (tgt := 24) hx hb dX7_restore_18 (by decide) (fun c18 => ?_) (fun c18 => ?_)
    · skip
      refine lv_aload_n hx hb dX7_restore_24 rfl (lv_at hl 0 rfl) ?_
      refine va_get (D := dg) (ci := 7) (v := .ref xh) (C := RX7) (T := TX7) (N := 7) hx hb hts in7 hown hK hP 0 rfl rfl 1 (by decide) f19 (fun _ h9 => h9) rfl dX7_restore_25 ?_
      refine lv_aload_n hx hb dX7_restore_28 rfl (lv_at hl 0 rfl) ?_
      refine va_get (D := dg) (ci := 7) (v := .ref xl) (C := RX7) (T := TX7) (N := 7) hx hb hts in7 hown hK hP 0 rfl rfl 0 (by decide) f12 (fun _ h9 => h9) rfl dX7_restore_29 ?_
      refine call_v (wr := [(x0, .inr (7, [.ref xl, .ref xh, .ref xt, .ref xp, .ref xo, .ref xu, .ref xw]))]) (va_runV (As := [.ref xl]) (rest := []) ⟨hx, hb, hml, hown, hts⟩ (kX0_remember ln dg tq (b0 := xh) (b1 := xhc) (st := st) (nx := nx) (hc := hc) (h0 := xl) (h1 := xlc) (c := c) (hst := (by omega)) (hnx := (by omega)) H.size) (cwV 1 hts gX7_restore_X0_remember rfl rfl rfl hdX0_remember ⟨Nat.le_of_ble_eq_true rfl, Nat.le_of_ble_eq_true rfl⟩) (preVB hK hN hP hD [3, 4, 1, 2] rfl rfl rfl 3 rfl rfl [.ref xl]) rfl rfl hl.1 rfl (lv_room (Nat.le_of_ble_eq_true rfl)) dX7_restore_32 ⟨Nat.le_refl _, Nat.le_refl _⟩) hP hD hS hA [3, 4, 1, 2] [0] rfl rfl (by decide) (by decide) (fun u32 H locs hw32 hP hD hS => ?_)
      have hP : va_P dg vwCl [(x0, .inr (7, [.ref xl, .ref xh, .ref xt, .ref xp, .ref xo, .ref xu, .ref xw])), (xh, .inr (0, [.ref xhc, .int (nI (recN st)), .int (nI ((nx + 1) % 5))])), (xhc, .inl (tq.1, 7365, .inl (va_cpy c hc 0 (nx * 1473) 1473))), (xl, .inr (1, [.ref xlc])), (xlc, .inl (tq.1, 1473, .inl c))] H := hP
      have hD : va_D AA [(x0, .inr (7, [.ref xl, .ref xh, .ref xt, .ref xp, .ref xo, .ref xu, .ref xw])), (xh, .inr (0, [.ref xhc, .int (nI (recN st)), .int (nI ((nx + 1) % 5))])), (xhc, .inl (tq.1, 7365, .inl (va_cpy c hc 0 (nx * 1473) 1473))), (xl, .inr (1, [.ref xlc])), (xlc, .inl (tq.1, 1473, .inl c))] := hD
      refine lv_aload_n hx hb dX7_restore_35 rfl (lv_at hl 0 rfl) ?_
      refine va_get (D := dg) (ci := 7) (v := .ref xl) (C := RX7) (T := TX7) (N := 7) hx hb hts in7 hown hK hP 0 rfl rfl 0 (by decide) f12 (fun _ h9 => h9) rfl dX7_restore_36 ?_
      refine lv_iload_n hx hb dX7_restore_39 rfl (lv_at hl 1 rfl) ?_
      refine call_v (wr := [(x0, .inr (7, [.ref xl, .ref xh, .ref xt, .ref xp, .ref xo, .ref xu, .ref xw])), (xh, .inr (0, [.ref xhc, .int (nI (recN st)), .int (nI ((nx + 1) % 5))])), (xhc, .inl (tq.1, 7365, .inl (va_cpy c hc 0 (nx * 1473) 1473)))]) (va_runV (As := [.int (nI jk_)]) (rest := []) ⟨hx, hb, hml, hown, hts⟩ (kX1_bringFrom ln dg tq (h0 := xl) (h1 := xlc) (c := c) (s := s) (hF := hF) (j := jk_) (hj := (by omega)) (hE := c18) H.size) (cwV 1 hts gX7_restore_X1_bringFrom rfl rfl rfl hdX1_bringFrom ⟨Nat.le_of_ble_eq_true rfl, Nat.le_of_ble_eq_true rfl⟩) (preVB hK hN hP hD [3, 4] rfl rfl rfl 3 rfl rfl [.int (nI jk_)]) rfl rfl hl.1 rfl (lv_room (Nat.le_of_ble_eq_true rfl)) dX7_restore_40 ⟨Nat.le_refl _, Nat.le_refl _⟩) hP hD hS hA [3, 4] [0, 1, 2] rfl rfl (by decide) (by decide) (fun u40 H locs hw40 hP hD hS => ?_)
      have hP : va_P dg vwCl [(x0, .inr (7, [.ref xl, .ref xh, .ref xt, .ref xp, .ref xo, .ref xu, .ref xw])), (xh, .inr (0, [.ref xhc, .int (nI (recN st)), .int (nI ((nx + 1) % 5))])), (xhc, .inl (tq.1, 7365, .inl (va_cpy c hc 0 (nx * 1473) 1473))), (xl, .inr (1, [.ref xlc])), (xlc, .inl (tq.1, 1473, .inl (va_cpy c c ((1 + jk_) * 491) 0 491)))] H := hP
      have hD : va_D AA [(x0, .inr (7, [.ref xl, .ref xh, .ref xt, .ref xp, .ref xo, .ref xu, .ref xw])), (xh, .inr (0, [.ref xhc, .int (nI (recN st)), .int (nI ((nx + 1) % 5))])), (xhc, .inl (tq.1, 7365, .inl (va_cpy c hc 0 (nx * 1473) 1473))), (xl, .inr (1, [.ref xlc])), (xlc, .inl (tq.1, 1473, .inl (va_cpy c c ((1 + jk_) * 491) 0 491)))] := hD
      refine lv_aload_n hx hb dX7_restore_43 rfl (lv_at hl 0 rfl) ?_
      refine va_get (D := dg) (ci := 7) (v := .ref xl) (C := RX7) (T := TX7) (N := 7) hx hb hts in7 hown hK hP 0 rfl rfl 0 (by decide) f12 (fun _ h9 => h9) rfl dX7_restore_44 ?_
      refine lv_iconst (v := (nI 0)) hx hb dX7_restore_47 (by decide) ?_
      refine call_x (va_runV (As := [.int (nI 0)]) (rest := []) ⟨hx, hb, hml, hown, hts⟩ (kX1_number ln dg tq (h0 := xl) (h1 := xlc) (c := va_cpy c c ((1 + jk_) * 491) 0 491) (k := 0) (hk := (by omega)) H.size) (cwV 1 hts gX7_restore_X1_number rfl rfl rfl hdX1_number ⟨Nat.le_of_ble_eq_true rfl, Nat.le_of_ble_eq_true rfl⟩) (preVR hK hN hP [3, 4] rfl 3 rfl rfl [.int (nI 0)]) rfl rfl hl.1 rfl (lv_room (Nat.le_of_ble_eq_true rfl)) dX7_restore_48 ⟨Nat.le_refl _, Nat.le_refl _⟩) hP hS hA (fun H locs hP hS => ?_)
      refine r_top (show ((va_cpy c c ((1 + jk_) * 491) 0 491) 0) = (s (481 + 481 * jk_)) from by rw [pk_cpy_in (by omega) (by omega)]; exact (slot_full hF (by omega) c18).1.n) ?_
      exact hret (s (481 + 481 * jk_)) ((va_cpy c c ((1 + jk_) * 491) 0 491), (va_cpy c hc 0 (nx * 1473) 1473), (recN st), ((nx + 1) % 5)) H locs _ ls (show (s (481 + 481 * jk_)) = (rsR s (nI jk_)) ∧ (ACT s c hc st nx (rsO s (nI jk_)) (rsS s (nI jk_)) (va_cpy c c ((1 + jk_) * 491) 0 491) (va_cpy c hc 0 (nx * 1473) 1473) (recN st) ((nx + 1) % 5)) from (⟨by unfold rsR; rw [c4, if_pos rfl, cl_n (show jk_ < 2147483648 by omega), c18]; rfl, ACT.yes (by unfold rsO; rw [c4, cl_n (show jk_ < 2147483648 by omega), c18]; rfl) (FS_rs hF (by omega) c18)⟩)) rfl (hP.sub [0, 3, 4, 1, 2] rfl) (hD.sub [0, 3, 4, 1, 2] (by decide) rfl) hS dX7_restore_51
    · skip
      refine lv_ldc hx hb hown k80 dX7_restore_21 ?_
      exact hret (-100002) (c, hc, st, nx) H locs _ ls (show (-100002) = (rsR s (nI jk_)) ∧ (ACT s c hc st nx (rsO s (nI jk_)) (rsS s (nI jk_)) c hc st nx) from (⟨by unfold rsR; rw [c4, if_pos rfl, cl_n (show jk_ < 2147483648 by omega), c18]; rfl, ACT.no (by unfold rsO; rw [c4, cl_n (show jk_ < 2147483648 by omega), c18]; rfl)⟩)) rfl (hP.sub [0, 1, 2, 3, 4] rfl) (hD.sub [0, 1, 2, 3, 4] (by decide) rfl) hS dX7_restore_23
  · skip
    refine lv_ldc hx hb hown k65 dX7_restore_7 ?_
    exact hret (-100001) (c, hc, st, nx) H locs _ ls (show (-100001) = (rsR s x) ∧ (ACT s c hc st nx (rsO s x) (rsS s x) c hc st nx) from (⟨by unfold rsR; rw [c4]; rfl, ACT.no (by unfold rsO; rw [c4]; rfl)⟩)) rfl (hP.sub [0, 1, 2, 3, 4] rfl) (hD.sub [0, 1, 2, 3, 4] (by decide) rfl) hS dX7_restore_9
theorem hdX7_undo : yX7_undo.cls = RX7 ∧ yX7_undo.cls ≠ "java/lang/invoke/MethodHandle" ∧ yX7_undo.cls ≠ "java/lang/invoke/VarHandle" ∧ (parseMethodDescriptor yX7_undo.desc).map (fun d => d.parameters.length) = some 0 := by decide +kernel
set_option maxHeartbeats 4000000 in
set_option maxRecDepth 100000 in
theorem kX7_undo (ln : Launch) (dg : va_G) (tq : ClassId × ClassId) (x0 xl xh xt xp xo xu xw : Nat)(xlc : Nat) (c : Row)(xhc : Nat) (st nx : Nat) (hc : Row) (hst : st ≤ 5) (hnx : nx < 5) : MW ln yX7_undo wsX7_undo (rmm 3 69) dg tq [.ref x0] [(x0, .inr (7, [.ref xl, .ref xh, .ref xt, .ref xp, .ref xo, .ref xu, .ref xw])), (xl, .inr (1, [.ref xlc])), (xlc, .inl (tq.1, 1473, .inl c)), (xh, .inr (0, [.ref xhc, .int (nI st), .int (nI nx)])), (xhc, .inl (tq.1, 7365, .inl hc))] (fun (r : Int32) (u : Row × Nat × Nat) => r = (unR st) ∧ (if st = 0 then u.1 = c ∧ u.2.1 = st ∧ u.2.2 = nx else u.1 = va_cpy hc c ((nx + 5 - 1) % 5 * 1473) 0 1473 ∧ u.2.1 = st - 1 ∧ u.2.2 = (nx + 5 - 1) % 5)) (fun u => [(x0, .inr (7, [.ref xl, .ref xh, .ref xt, .ref xp, .ref xo, .ref xu, .ref xw])), (xl, .inr (1, [.ref xlc])), (xlc, .inl (tq.1, 1473, .inl u.1)), (xh, .inr (0, [.ref xhc, .int (nI u.2.1), .int (nI u.2.2)])), (xhc, .inl (tq.1, 7365, .inl hc))]) := by
  refine MW.enter cX7_undo 1 .int (by decide) rfl rfl (Nat.le_of_ble_eq_true rfl) ?_
  intro pP eE sS mM aA bB mT cC QQ AA hA hAT hret H locs hP hD hS ls hl
  obtain ⟨hx, hb, hml, hown, hts, hK, hN⟩ := hAT
  have hown : sS.vm.findClass RX7 = some mM.cls := hown
  have hl : lv_has ls 1 [(0, .ref x0)] := hl
  have in7 : ∀ w ∈ u_ws RX7 TX7 7, w ∈ wsX7_undo := (fun _ h9 => List.mem_cons_of_mem _ (List.mem_append_left _ (List.mem_append_left _ (List.mem_append_right _ h9))))
  have f19 := hts (.fieldLink RX7 19 "OrphanChain" "history" "LOrphanChain$History;") (List.mem_of_getElem? (i := 1) rfl)
  have f12 := hts (.fieldLink RX7 12 "OrphanChain" "ledger" "LOrphanChain$Ledger;") (List.mem_of_getElem? (i := 3) rfl)
  have k80 := hts (.constant RX7 80 (-100002)) (List.mem_of_getElem? (i := 2) rfl)
  refine lv_aload_n hx hb dX7_undo_0 rfl (lv_at hl 0 rfl) ?_
  refine va_get (D := dg) (ci := 7) (v := .ref xh) (C := RX7) (T := TX7) (N := 7) hx hb hts in7 hown hK hP 0 rfl rfl 1 (by decide) f19 (fun _ h9 => h9) rfl dX7_undo_1 ?_
  refine call_x (va_runV (As := []) (rest := []) ⟨hx, hb, hml, hown, hts⟩ (kX0_states ln dg tq (b0 := xh) (b1 := xhc) (st := st) (nx := nx) (hc := hc) H.size) (cwV 0 hts gX7_undo_X0_states rfl rfl rfl hdX0_states ⟨Nat.le_of_ble_eq_true rfl, Nat.le_of_ble_eq_true rfl⟩) (preVR hK hN hP [3, 4] rfl 3 rfl rfl []) rfl rfl hl.1 rfl (lv_room (Nat.le_of_ble_eq_true rfl)) dX7_undo_4 ⟨Nat.le_refl _, Nat.le_refl _⟩) hP hS hA (fun H locs hP hS => ?_)
  refine lv_iconst (v := (nI 1)) hx hb dX7_undo_7 (by decide) ?_
  refine r_icmp_ge (tgt := 14) hx hb (nI_tI (by omega)) (nI_tI (by omega)) dX7_undo_8 (by decide) (fun c8 => ?_) (fun c8 => ?_)
  · skip
    refine lv_aload_n hx hb dX7_undo_14 rfl (lv_at hl 0 rfl) ?_
    refine va_get (D := dg) (ci := 7) (v := .ref xh) (C := RX7) (T := TX7) (N := 7) hx hb hts in7 hown hK hP 0 rfl rfl 1 (by decide) f19 (fun _ h9 => h9) rfl dX7_undo_15 ?_
    refine lv_aload_n hx hb dX7_undo_18 rfl (lv_at hl 0 rfl) ?_
    refine va_get (D := dg) (ci := 7) (v := .ref xl) (C := RX7) (T := TX7) (N := 7) hx hb hts in7 hown hK hP 0 rfl rfl 0 (by decide) f12 (fun _ h9 => h9) rfl dX7_undo_19 ?_
    refine call_v (wr := [(x0, .inr (7, [.ref xl, .ref xh, .ref xt, .ref xp, .ref xo, .ref xu, .ref xw]))]) (va_runV (As := [.ref xl]) (rest := []) ⟨hx, hb, hml, hown, hts⟩ (kX0_bringBack ln dg tq (b0 := xh) (b1 := xhc) (st := st) (nx := nx) (hc := hc) (h0 := xl) (h1 := xlc) (c := c) (hst := (by omega)) (hnx := (by omega)) (hs0 := (by omega)) H.size) (cwV 1 hts gX7_undo_X0_bringBack rfl rfl rfl hdX0_bringBack ⟨Nat.le_of_ble_eq_true rfl, Nat.le_of_ble_eq_true rfl⟩) (preVB hK hN hP hD [3, 4, 1, 2] rfl rfl rfl 3 rfl rfl [.ref xl]) rfl rfl hl.1 rfl (lv_room (Nat.le_of_ble_eq_true rfl)) dX7_undo_22 ⟨Nat.le_refl _, Nat.le_refl _⟩) hP hD hS hA [3, 4, 1, 2] [0] rfl rfl (by decide) (by decide) (fun u22 H locs hw22 hP hD hS => ?_)
    have hP : va_P dg vwCl [(x0, .inr (7, [.ref xl, .ref xh, .ref xt, .ref xp, .ref xo, .ref xu, .ref xw])), (xh, .inr (0, [.ref xhc, .int (nI (st - 1)), .int (nI ((nx + 5 - 1) % 5))])), (xhc, .inl (tq.1, 7365, .inl hc)), (xl, .inr (1, [.ref xlc])), (xlc, .inl (tq.1, 1473, .inl (va_cpy hc c ((nx + 5 - 1) % 5 * 1473) 0 1473)))] H := hP
    have hD : va_D AA [(x0, .inr (7, [.ref xl, .ref xh, .ref xt, .ref xp, .ref xo, .ref xu, .ref xw])), (xh, .inr (0, [.ref xhc, .int (nI (st - 1)), .int (nI ((nx + 5 - 1) % 5))])), (xhc, .inl (tq.1, 7365, .inl hc)), (xl, .inr (1, [.ref xlc])), (xlc, .inl (tq.1, 1473, .inl (va_cpy hc c ((nx + 5 - 1) % 5 * 1473) 0 1473)))] := hD
    refine lv_aload_n hx hb dX7_undo_25 rfl (lv_at hl 0 rfl) ?_
    refine va_get (D := dg) (ci := 7) (v := .ref xh) (C := RX7) (T := TX7) (N := 7) hx hb hts in7 hown hK hP 0 rfl rfl 1 (by decide) f19 (fun _ h9 => h9) rfl dX7_undo_26 ?_
    refine call_x (va_runV (As := []) (rest := []) ⟨hx, hb, hml, hown, hts⟩ (kX0_states ln dg tq (b0 := xh) (b1 := xhc) (st := st - 1) (nx := (nx + 5 - 1) % 5) (hc := hc) H.size) (cwV 0 hts gX7_undo_X0_states rfl rfl rfl hdX0_states ⟨Nat.le_of_ble_eq_true rfl, Nat.le_of_ble_eq_true rfl⟩) (preVR hK hN hP [1, 2] rfl 1 rfl rfl []) rfl rfl hl.1 rfl (lv_room (Nat.le_of_ble_eq_true rfl)) dX7_undo_29 ⟨Nat.le_refl _, Nat.le_refl _⟩) hP hS hA (fun H locs hP hS => ?_)
    exact hret (nI (st - 1)) ((va_cpy hc c ((nx + 5 - 1) % 5 * 1473) 0 1473), (st - 1), ((nx + 5 - 1) % 5)) H locs _ ls (show (nI (st - 1)) = (unR st) ∧ (if st = 0 then (va_cpy hc c ((nx + 5 - 1) % 5 * 1473) 0 1473) = c ∧ (st - 1) = st ∧ ((nx + 5 - 1) % 5) = nx else (va_cpy hc c ((nx + 5 - 1) % 5 * 1473) 0 1473) = va_cpy hc c ((nx + 5 - 1) % 5 * 1473) 0 1473 ∧ (st - 1) = st - 1 ∧ ((nx + 5 - 1) % 5) = (nx + 5 - 1) % 5) from (⟨by unfold unR; rw [if_neg (by omega)], by rw [if_neg (by omega)]; exact ⟨rfl, rfl, rfl⟩⟩)) rfl (hP.sub [0, 3, 4, 1, 2] rfl) (hD.sub [0, 3, 4, 1, 2] (by decide) rfl) hS dX7_undo_32
  · skip
    refine lv_ldc hx hb hown k80 dX7_undo_11 ?_
    exact hret (-100002) (c, st, nx) H locs _ ls (show (-100002) = (unR st) ∧ (if st = 0 then c = c ∧ st = st ∧ nx = nx else c = va_cpy hc c ((nx + 5 - 1) % 5 * 1473) 0 1473 ∧ st = st - 1 ∧ nx = (nx + 5 - 1) % 5) from (⟨by unfold unR; rw [if_pos (by omega)], by rw [if_pos (by omega)]; exact ⟨rfl, rfl, rfl⟩⟩)) rfl (hP.sub [0, 1, 2, 3, 4] rfl) (hD.sub [0, 1, 2, 3, 4] (by decide) rfl) hS dX7_undo_13
