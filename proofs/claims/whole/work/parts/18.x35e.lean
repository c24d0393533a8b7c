theorem hdX5_add : yX5_add.cls = RX5 ∧ yX5_add.cls ≠ "java/lang/invoke/MethodHandle" ∧ yX5_add.cls ≠ "java/lang/invoke/VarHandle" ∧ (parseMethodDescriptor yX5_add.desc).map (fun d => d.parameters.length) = some 2 := by decide +kernel
set_option maxHeartbeats 4000000 in
set_option maxRecDepth 100000 in
theorem kX5_add (ln : Launch) (dg : va_G) (tq : ClassId × ClassId) (u0 u1 : Nat) (f : Row) (h0 h1 : Nat) (c : Row) (s : Row) (hR : XR s c) (hW : WF s) (v : Nat → Int) (hV : SV f v) (e : Nat) (he : e < nE s) : MV ln yX5_add wsX5_add (rmm 1 22) dg tq [.ref u0, .ref h0, .int (nI e)] [(u0, .inr (5, [.ref u1])), (u1, .inl (tq.1, 6, .inl f)), (h0, .inr (1, [.ref h1])), (h1, .inl (tq.1, 1473, .inl c))] (fun (u : Row) => SV u (addV s v e)) (fun u => [(u0, .inr (5, [.ref u1])), (u1, .inl (tq.1, 6, .inl u)), (h0, .inr (1, [.ref h1])), (h1, .inl (tq.1, 1473, .inl c))]) := by
  refine MV.enter cX5_add 5 (by decide) rfl rfl (Nat.le_of_ble_eq_true rfl) ?_
  intro pP eE sS mM aA bB mT cC QQ AA hA hAT hret H locs hP hD hS ls hl
  obtain ⟨hx, hb, hml, hown, hts, hK, hN⟩ := hAT
  have hown : sS.vm.findClass RX5 = some mM.cls := hown
  have hl : lv_has ls 5 [(0, .ref u0), (1, .ref h0), (2, .int (nI e))] := hl
  have st_X7_takes := hts (.static yX7_takes) (List.mem_of_getElem? (i := 7) rfl)
  have iRX7 := hts (.initialized RX7) (List.mem_of_getElem? (i := 8) rfl)
  have st_X7_brings := hts (.static yX7_brings) (List.mem_of_getElem? (i := 16) rfl)
  have hn60 := hW.n60
  have hb10 := hW.b10
  have hs8 := hW.s8
  have h1l := hW.a1l he
  have h2l := hW.a2l he
  refine lv_aload_n hx hb dX5_add_0 rfl (lv_at hl 1 rfl) ?_
  refine lv_iload_n hx hb dX5_add_1 rfl (lv_at hl 2 rfl) ?_
  refine lv_iconst (v := (nI 0)) hx hb dX5_add_2 (by decide) ?_
  refine call_x (va_runV (As := [.int (nI e), .int (nI 0)]) (rest := []) ⟨hx, hb, hml, hown, hts⟩ (kX1_ofEntry ln dg tq (h0 := h0) (h1 := h1) (c := c) (e := e) (f := 0) (he := (by omega)) (hf := (by omega)) H.size) (cwV 2 hts gX5_add_X1_ofEntry rfl rfl rfl hdX1_ofEntry ⟨Nat.le_of_ble_eq_true rfl, Nat.le_of_ble_eq_true rfl⟩) (preVR hK hN hP [2, 3] rfl 2 rfl rfl [.int (nI e), .int (nI 0)]) rfl rfl hl.1 rfl (lv_room (Nat.le_of_ble_eq_true rfl)) dX5_add_3 ⟨Nat.le_refl _, Nat.le_refl _⟩) hP hS hA (fun H locs hP hS => ?_)
  refine r_top (show (c (5 + e * 7 + 0)) = (me s e 1) from hR.xkd (by omega)) ?_
  refine lv_istore_n (lv' := [(3, .int (me s e 1)), (0, .ref u0), (1, .ref h0), (2, .int (nI e))]) hx hb dX5_add_6 rfl hl (by decide) rfl (fun ls hl => ?_)
  refine lv_aload_n hx hb dX5_add_7 rfl (lv_at hl 2 rfl) ?_
  refine lv_iload_n hx hb dX5_add_8 rfl (lv_at hl 3 rfl) ?_
  refine lv_iconst (v := (nI 3)) hx hb dX5_add_9 (by decide) ?_
  refine call_x (va_runV (As := [.int (nI e), .int (nI 3)]) (rest := []) ⟨hx, hb, hml, hown, hts⟩ (kX1_ofEntry ln dg tq (h0 := h0) (h1 := h1) (c := c) (e := e) (f := 3) (he := (by omega)) (hf := (by omega)) H.size) (cwV 2 hts gX5_add_X1_ofEntry rfl rfl rfl hdX1_ofEntry ⟨Nat.le_of_ble_eq_true rfl, Nat.le_of_ble_eq_true rfl⟩) (preVR hK hN hP [2, 3] rfl 2 rfl rfl [.int (nI e), .int (nI 3)]) rfl rfl hl.1 rfl (lv_room (Nat.le_of_ble_eq_true rfl)) dX5_add_10 ⟨Nat.le_refl _, Nat.le_refl _⟩) hP hS hA (fun H locs hP hS => ?_)
  refine r_top (show (c (5 + e * 7 + 3)) = (me s e 4) from hR.xam (by omega)) ?_
  refine lv_istore (lv' := [(4, .int (me s e 4)), (3, .int (me s e 1)), (0, .ref u0), (1, .ref h0), (2, .int (nI e))]) hx hb dX5_add_13 hl (by decide) rfl (fun ls hl => ?_)
  refine lv_iload_n hx hb dX5_add_15 rfl (lv_at hl 1 rfl) ?_
  refine call_x (va_runSN (As := [.int (me s e 1)]) (rest := []) ⟨hx, hb, hml, hown, hts⟩ (kX7_takes ln dg tq (v := (me s e 1)) H.size) ⟨va_cnB 1 hts gX5_add_X7_takes_n44 rfl rfl rfl hN.2.2.2.1 iRX7 hdX7_takes.2 ⟨Nat.le_of_ble_eq_true rfl, Nat.le_of_ble_eq_true rfl⟩, st_X7_takes, trivial⟩ (preS0 hK hN [.int (me s e 1)]) rfl rfl hl.1 rfl (lv_room (Nat.le_of_ble_eq_true rfl)) dX5_add_16 ⟨Nat.le_refl _, Nat.le_refl _⟩) hP hS hA (fun H locs hP hS => ?_)
  refine r_top (show (bI (decide ((me s e 1).toInt = 2 ∨ (me s e 1).toInt = 3))) = (bI (tk s e)) from rfl) ?_
  refine r_if_eq_b (tgt := 35) hx hb dX5_add_19 (by decide) (fun c19 => ?_) (fun c19 => ?_)
  · skip
    refine lv_iload_n hx hb dX5_add_35 rfl (lv_at hl 1 rfl) ?_
    refine call_x (va_runSN (As := [.int (me s e 1)]) (rest := []) ⟨hx, hb, hml, hown, hts⟩ (kX7_brings ln dg tq (v := (me s e 1)) H.size) ⟨va_cnB 1 hts gX5_add_X7_brings_n52 rfl rfl rfl hN.2.2.2.2.1 iRX7 hdX7_brings.2 ⟨Nat.le_of_ble_eq_true rfl, Nat.le_of_ble_eq_true rfl⟩, st_X7_brings, trivial⟩ (preS0 hK hN [.int (me s e 1)]) rfl rfl hl.1 rfl (lv_room (Nat.le_of_ble_eq_true rfl)) dX5_add_36 ⟨Nat.le_refl _, Nat.le_refl _⟩) hP hS hA (fun H locs hP hS => ?_)
    refine r_top (show (bI (decide (1 ≤ (me s e 1).toInt ∧ (me s e 1).toInt ≤ 3))) = (bI (bg s e)) from rfl) ?_
    refine r_if_eq_b (tgt := 54) hx hb dX5_add_39 (by decide) (fun c39 => ?_) (fun c39 => ?_)
    · skip
      exact hret (f) H locs _ ls (by first | exact SV_tt hV c19 c39 | exact SV_ft hV c19 c39 | exact SV_tf hV c19 c39 | exact SV_ff hV c19 c39) (hP.sub [0, 1, 2, 3] rfl) (hD.sub [0, 1, 2, 3] (by decide) rfl) hS dX5_add_54
    · skip
      refine lv_aload_n hx hb dX5_add_42 rfl (lv_at hl 2 rfl) ?_
      refine lv_aload_n hx hb dX5_add_43 rfl (lv_at hl 3 rfl) ?_
      refine lv_iload_n hx hb dX5_add_44 rfl (lv_at hl 4 rfl) ?_
      refine lv_iconst (v := (nI 2)) hx hb dX5_add_45 (by decide) ?_
      refine call_x (va_runV (As := [.int (nI e), .int (nI 2)]) (rest := [.ref u0]) ⟨hx, hb, hml, hown, hts⟩ (kX1_ofEntry ln dg tq (h0 := h0) (h1 := h1) (c := c) (e := e) (f := 2) (he := (by omega)) (hf := (by omega)) H.size) (cwV 2 hts gX5_add_X1_ofEntry rfl rfl rfl hdX1_ofEntry ⟨Nat.le_of_ble_eq_true rfl, Nat.le_of_ble_eq_true rfl⟩) (preVR hK hN hP [2, 3] rfl 2 rfl rfl [.int (nI e), .int (nI 2)]) rfl rfl hl.1 rfl (lv_room (Nat.le_of_ble_eq_true rfl)) dX5_add_46 ⟨Nat.le_refl _, Nat.le_refl _⟩) hP hS hA (fun H locs hP hS => ?_)
      refine r_top (show (c (5 + e * 7 + 2)) = (nI (a2 s e)) from hR.A2 hW (by omega)) ?_
      refine lv_iload hx hb dX5_add_49 (lv_at hl 0 rfl) ?_
      refine call_v (wr := [(h0, .inr (1, [.ref h1])), (h1, .inl (tq.1, 1473, .inl c))]) (va_runV (As := [.int (nI (a2 s e)), .int (me s e 4)]) (rest := []) ⟨hx, hb, hml, hown, hts⟩ (kX5_change ln dg tq (u0 := u0) (u1 := u1) (f := f) (a := a2 s e) (y := (me s e 4)) (ha := (by omega)) H.size) (cwV 2 hts gX5_add_X5_change rfl rfl rfl hdX5_change ⟨Nat.le_of_ble_eq_true rfl, Nat.le_of_ble_eq_true rfl⟩) (preVB hK hN hP hD [0, 1] rfl rfl rfl 0 rfl rfl [.int (nI (a2 s e)), .int (me s e 4)]) rfl rfl hl.1 rfl (lv_room (Nat.le_of_ble_eq_true rfl)) dX5_add_51 ⟨Nat.le_refl _, Nat.le_refl _⟩) hP hD hS hA [0, 1] [2, 3] rfl rfl (by decide) (by decide) (fun u51 H locs hw51 hP hD hS => ?_)
      have hP : va_P dg vwCl [(h0, .inr (1, [.ref h1])), (h1, .inl (tq.1, 1473, .inl c)), (u0, .inr (5, [.ref u1])), (u1, .inl (tq.1, 6, .inl (upd f (a2 s e) (f (a2 s e) + (me s e 4)))))] H := hP
      have hD : va_D AA [(h0, .inr (1, [.ref h1])), (h1, .inl (tq.1, 1473, .inl c)), (u0, .inr (5, [.ref u1])), (u1, .inl (tq.1, 6, .inl (upd f (a2 s e) (f (a2 s e) + (me s e 4)))))] := hD
      exact hret ((upd f (a2 s e) (f (a2 s e) + (me s e 4)))) H locs _ ls (by first | exact SV_tt hV c19 c39 | exact SV_ft hV c19 c39 | exact SV_tf hV c19 c39 | exact SV_ff hV c19 c39) (hP.sub [2, 3, 0, 1] rfl) (hD.sub [2, 3, 0, 1] (by decide) rfl) hS dX5_add_54
  · skip
    refine lv_aload_n hx hb dX5_add_22 rfl (lv_at hl 2 rfl) ?_
    refine lv_aload_n hx hb dX5_add_23 rfl (lv_at hl 3 rfl) ?_
    refine lv_iload_n hx hb dX5_add_24 rfl (lv_at hl 4 rfl) ?_
    refine lv_iconst (v := (nI 1)) hx hb dX5_add_25 (by decide) ?_
    refine call_x (va_runV (As := [.int (nI e), .int (nI 1)]) (rest := [.ref u0]) ⟨hx, hb, hml, hown, hts⟩ (kX1_ofEntry ln dg tq (h0 := h0) (h1 := h1) (c := c) (e := e) (f := 1) (he := (by omega)) (hf := (by omega)) H.size) (cwV 2 hts gX5_add_X1_ofEntry rfl rfl rfl hdX1_ofEntry ⟨Nat.le_of_ble_eq_true rfl, Nat.le_of_ble_eq_true rfl⟩) (preVR hK hN hP [2, 3] rfl 2 rfl rfl [.int (nI e), .int (nI 1)]) rfl rfl hl.1 rfl (lv_room (Nat.le_of_ble_eq_true rfl)) dX5_add_26 ⟨Nat.le_refl _, Nat.le_refl _⟩) hP hS hA (fun H locs hP hS => ?_)
    refine r_top (show (c (5 + e * 7 + 1)) = (nI (a1 s e)) from hR.A1 hW (by omega)) ?_
    refine lv_iload hx hb dX5_add_29 (lv_at hl 0 rfl) ?_
    refine lv_ineg hx hb dX5_add_31 ?_
    refine call_v (wr := [(h0, .inr (1, [.ref h1])), (h1, .inl (tq.1, 1473, .inl c))]) (va_runV (As := [.int (nI (a1 s e)), .int (- (me s e 4))]) (rest := []) ⟨hx, hb, hml, hown, hts⟩ (kX5_change ln dg tq (u0 := u0) (u1 := u1) (f := f) (a := a1 s e) (y := (- (me s e 4))) (ha := (by omega)) H.size) (cwV 2 hts gX5_add_X5_change rfl rfl rfl hdX5_change ⟨Nat.le_of_ble_eq_true rfl, Nat.le_of_ble_eq_true rfl⟩) (preVB hK hN hP hD [0, 1] rfl rfl rfl 0 rfl rfl [.int (nI (a1 s e)), .int (- (me s e 4))]) rfl rfl hl.1 rfl (lv_room (Nat.le_of_ble_eq_true rfl)) dX5_add_32 ⟨Nat.le_refl _, Nat.le_refl _⟩) hP hD hS hA [0, 1] [2, 3] rfl rfl (by decide) (by decide) (fun u32 H locs hw32 hP hD hS => ?_)
    have hP : va_P dg vwCl [(h0, .inr (1, [.ref h1])), (h1, .inl (tq.1, 1473, .inl c)), (u0, .inr (5, [.ref u1])), (u1, .inl (tq.1, 6, .inl (upd f (a1 s e) (f (a1 s e) + (- (me s e 4))))))] H := hP
    have hD : va_D AA [(h0, .inr (1, [.ref h1])), (h1, .inl (tq.1, 1473, .inl c)), (u0, .inr (5, [.ref u1])), (u1, .inl (tq.1, 6, .inl (upd f (a1 s e) (f (a1 s e) + (- (me s e 4))))))] := hD
    refine lv_iload_n hx hb dX5_add_35 rfl (lv_at hl 1 rfl) ?_
    refine call_x (va_runSN (As := [.int (me s e 1)]) (rest := []) ⟨hx, hb, hml, hown, hts⟩ (kX7_brings ln dg tq (v := (me s e 1)) H.size) ⟨va_cnB 1 hts gX5_add_X7_brings_n52 rfl rfl rfl hN.2.2.2.2.1 iRX7 hdX7_brings.2 ⟨Nat.le_of_ble_eq_true rfl, Nat.le_of_ble_eq_true rfl⟩, st_X7_brings, trivial⟩ (preS0 hK hN [.int (me s e 1)]) rfl rfl hl.1 rfl (lv_room (Nat.le_of_ble_eq_true rfl)) dX5_add_36 ⟨Nat.le_refl _, Nat.le_refl _⟩) hP hS hA (fun H locs hP hS => ?_)
    refine r_top (show (bI (decide (1 ≤ (me s e 1).toInt ∧ (me s e 1).toInt ≤ 3))) = (bI (bg s e)) from rfl) ?_
    refine r_if_eq_b (tgt := 54) hx hb dX5_add_39 (by decide) (fun c39 => ?_) (fun c39 => ?_)
    · skip
      exact hret ((upd f (a1 s e) (f (a1 s e) + (- (me s e 4))))) H locs _ ls (by first | exact SV_tt hV c19 c39 | exact SV_ft hV c19 c39 | exact SV_tf hV c19 c39 | exact SV_ff hV c19 c39) (hP.sub [2, 3, 0, 1] rfl) (hD.sub [2, 3, 0, 1] (by decide) rfl) hS dX5_add_54
    · skip
      refine lv_aload_n hx hb dX5_add_42 rfl (lv_at hl 2 rfl) ?_
      refine lv_aload_n hx hb dX5_add_43 rfl (lv_at hl 3 rfl) ?_
      refine lv_iload_n hx hb dX5_add_44 rfl (lv_at hl 4 rfl) ?_
      refine lv_iconst (v := (nI 2)) hx hb dX5_add_45 (by decide) ?_
      refine call_x (va_runV (As := [.int (nI e), .int (nI 2)]) (rest := [.ref u0]) ⟨hx, hb, hml, hown, hts⟩ (kX1_ofEntry ln dg tq (h0 := h0) (h1 := h1) (c := c) (e := e) (f := 2) (he := (by omega)) (hf := (by omega)) H.size) (cwV 2 hts gX5_add_X1_ofEntry rfl rfl rfl hdX1_ofEntry ⟨Nat.le_of_ble_eq_true rfl, Nat.le_of_ble_eq_true rfl⟩) (preVR hK hN hP [0, 1] rfl 0 rfl rfl [.int (nI e), .int (nI 2)]) rfl rfl hl.1 rfl (lv_room (Nat.le_of_ble_eq_true rfl)) dX5_add_46 ⟨Nat.le_refl _, Nat.le_refl _⟩) hP hS hA (fun H locs hP hS => ?_)
      refine r_top (show (c (5 + e * 7 + 2)) = (nI (a2 s e)) from hR.A2 hW (by omega)) ?_
      refine lv_iload hx hb dX5_add_49 (lv_at hl 0 rfl) ?_
      refine call_v (wr := [(h0, .inr (1, [.ref h1])), (h1, .inl (tq.1, 1473, .inl c))]) (va_runV (As := [.int (nI (a2 s e)), .int (me s e 4)]) (rest := []) ⟨hx, hb, hml, hown, hts⟩ (kX5_change ln dg tq (u0 := u0) (u1 := u1) (f := upd f (a1 s e) (f (a1 s e) + (- (me s e 4)))) (a := a2 s e) (y := (me s e 4)) (ha := (by omega)) H.size) (cwV 2 hts gX5_add_X5_change rfl rfl rfl hdX5_change ⟨Nat.le_of_ble_eq_true rfl, Nat.le_of_ble_eq_true rfl⟩) (preVB hK hN hP hD [2, 3] rfl rfl rfl 2 rfl rfl [.int (nI (a2 s e)), .int (me s e 4)]) rfl rfl hl.1 rfl (lv_room (Nat.le_of_ble_eq_true rfl)) dX5_add_51 ⟨Nat.le_refl _, Nat.le_refl _⟩) hP hD hS hA [2, 3] [0, 1] rfl rfl (by decide) (by decide) (fun u51 H locs hw51 hP hD hS => ?_)
      have hP : va_P dg vwCl [(h0, .inr (1, [.ref h1])), (h1, .inl (tq.1, 1473, .inl c)), (u0, .inr (5, [.ref u1])), (u1, .inl (tq.1, 6, .inl (upd (upd f (a1 s e) (f (a1 s e) + (- (me s e 4)))) (a2 s e) ((upd f (a1 s e) (f (a1 s e) + (- (me s e 4)))) (a2 s e) + (me s e 4)))))] H := hP
      have hD : va_D AA [(h0, .inr (1, [.ref h1])), (h1, .inl (tq.1, 1473, .inl c)), (u0, .inr (5, [.ref u1])), (u1, .inl (tq.1, 6, .inl (upd (upd f (a1 s e) (f (a1 s e) + (- (me s e 4)))) (a2 s e) ((upd f (a1 s e) (f (a1 s e) + (- (me s e 4)))) (a2 s e) + (me s e 4)))))] := hD
      exact hret ((upd (upd f (a1 s e) (f (a1 s e) + (- (me s e 4)))) (a2 s e) ((upd f (a1 s e) (f (a1 s e) + (- (me s e 4)))) (a2 s e) + (me s e 4)))) H locs _ ls (by first | exact SV_tt hV c19 c39 | exact SV_ft hV c19 c39 | exact SV_tf hV c19 c39 | exact SV_ff hV c19 c39) (hP.sub [2, 3, 0, 1] rfl) (hD.sub [2, 3, 0, 1] (by decide) rfl) hS dX5_add_54
theorem hdX5_fill : yX5_fill.cls = RX5 ∧ yX5_fill.cls ≠ "java/lang/invoke/MethodHandle" ∧ yX5_fill.cls ≠ "java/lang/invoke/VarHandle" ∧ (parseMethodDescriptor yX5_fill.desc).map (fun d => d.parameters.length) = some 2 := by decide +kernel
set_option maxHeartbeats 4000000 in
set_option maxRecDepth 100000 in
theorem kX5_fill (ln : Launch) (dg : va_G) (tq : ClassId × ClassId) (u0 u1 : Nat) (f : Row) (h0 h1 : Nat) (c : Row) (s : Row) (hR : XR s c) (hW : WF s) (leaf : Nat) (hl0 : leaf < nE s) : MV ln yX5_fill wsX5_fill (rmm 2 46) dg tq [.ref u0, .ref h0, .int (nI leaf)] [(u0, .inr (5, [.ref u1])), (u1, .inl (tq.1, 6, .inl f)), (h0, .inr (1, [.ref h1])), (h1, .inl (tq.1, 1473, .inl c))] (fun (u : Row) => SV u (bal s leaf)) (fun u => [(u0, .inr (5, [.ref u1])), (u1, .inl (tq.1, 6, .inl u)), (h0, .inr (1, [.ref h1])), (h1, .inl (tq.1, 1473, .inl c))]) := by
  refine MV.enter cX5_fill 5 (by decide) rfl rfl (Nat.le_of_ble_eq_true rfl) ?_
  intro pP eE sS mM aA bB mT cC QQ AA hA hAT hret H locs hP hD hS ls hl
  obtain ⟨hx, hb, hml, hown, hts, hK, hN⟩ := hAT
  have hown : sS.vm.findClass RX5 = some mM.cls := hown
  have hl : lv_has ls 5 [(0, .ref u0), (1, .ref h0), (2, .int (nI leaf))] := hl
  have hn60 := hW.n60
  have hb10 := hW.b10
  have hs8 := hW.s8
  refine lv_aload_n hx hb dX5_fill_0 rfl (lv_at hl 0 rfl) ?_
  refine call_v (wr := [(h0, .inr (1, [.ref h1])), (h1, .inl (tq.1, 1473, .inl c))]) (va_runV (As := []) (rest := []) ⟨hx, hb, hml, hown, hts⟩ (kX5_clear ln dg tq (u0 := u0) (u1 := u1) (f := f) H.size) (cwV 0 hts gX5_fill_X5_clear rfl rfl rfl hdX5_clear ⟨Nat.le_of_ble_eq_true rfl, Nat.le_of_ble_eq_true rfl⟩) (preVB hK hN hP hD [0, 1] rfl rfl rfl 0 rfl rfl []) rfl rfl hl.1 rfl (lv_room (Nat.le_of_ble_eq_true rfl)) dX5_fill_1 ⟨Nat.le_refl _, Nat.le_refl _⟩) hP hD hS hA [0, 1] [2, 3] rfl rfl (by decide) (by decide) (fun u1 H locs hw1 hP hD hS => ?_)
  obtain ⟨g1, rfl⟩ : ∃ z, z = u1 := ⟨_, rfl⟩
  have hP : va_P dg vwCl [(h0, .inr (1, [.ref h1])), (h1, .inl (tq.1, 1473, .inl c)), (u0, .inr (5, [.ref u1])), (u1, .inl (tq.1, 6, .inl g1))] H := hP
  have hD : va_D AA [(h0, .inr (1, [.ref h1])), (h1, .inl (tq.1, 1473, .inl c)), (u0, .inr (5, [.ref u1])), (u1, .inl (tq.1, 6, .inl g1))] := hD
  refine lv_iload_n hx hb dX5_fill_4 rfl (lv_at hl 2 rfl) ?_
  refine lv_istore_n (lv' := [(3, .int (nI leaf)), (0, .ref u0), (1, .ref h0), (2, .int (nI leaf))]) hx hb dX5_fill_5 rfl hl (by decide) rfl (fun ls hl => ?_)
  refine lv_iconst (v := (nI 0)) hx hb dX5_fill_6 (by decide) ?_
  refine lv_istore (lv' := [(4, .int (nI 0)), (3, .int (nI leaf)), (0, .ref u0), (1, .ref h0), (2, .int (nI leaf))]) hx hb dX5_fill_7 hl (by decide) rfl (fun ls hl => ?_)
  have loop9 : ∀ (fu : Nat) (at_ : Nat) (st_ : Nat) (f_ : Row) (v_ : Nat → Int) (H : Heap) (locs : List Loc) (ls : Array Slot), (at_ + st_ ≤ leaf ∧ SV f_ v_ ∧ (∀ a, v_ a + bal s at_ a = bal s leaf a)) → at_ < fu → va_P dg vwCl [(u0, .inr (5, [.ref u1])), (u1, .inl (tq.1, 6, .inl f_)), (h0, .inr (1, [.ref h1])), (h1, .inl (tq.1, 1473, .inl c))] H → va_D AA [(u0, .inr (5, [.ref u1])), (u1, .inl (tq.1, 6, .inl f_)), (h0, .inr (1, [.ref h1])), (h1, .inl (tq.1, 1473, .inl c))] → va_S AA sS.heap H locs → lv_has ls 5 [(0, .ref u0), (1, .ref h0), (2, .int (nI leaf)), (3, .int (nI at_)), (4, .int (nI st_))] → W pP ln eE (rmm 2 46) sS mM aA bB mT cC H locs 0 0 QQ (F0 mM 9 ls []) := by
    intro fu
    induction fu with
    | zero => intro at_ st_ f_ v_ H locs ls _ hm; exact absurd hm (Nat.not_lt_zero _)
    | succ fu ih9 =>
      intro at_ st_ f_ v_ H locs ls hinv hm hP hD hS hl
      obtain ⟨hi1, hV, hi3⟩ := hinv
      refine lv_iload hx hb dX5_fill_9 (lv_at hl 4 rfl) ?_
      refine lv_bipush (v := (nI 60)) hx hb dX5_fill_11 (by decide) ?_
      refine r_icmp_ge (tgt := 39) hx hb (nI_tI (by omega)) (nI_tI (by omega)) dX5_fill_13 (by decide) (fun c13 => False.elim (by omega)) (fun c13 => ?_)
      refine lv_iload_n hx hb dX5_fill_16 rfl (lv_at hl 3 rfl) ?_
      refine r_if_le (tgt := 39) hx hb (nI_tI (by omega)) dX5_fill_17 (by decide) (fun c17 => ?_) (fun c17 => ?_)
      · skip
        exact hret (f_) H locs _ ls (fun a ha => by rw [hV a ha]; congr 1; have h1 := hi3 a; rw [show at_ = 0 by omega, bal_0] at h1; omega) (hP.sub [0, 1, 2, 3] rfl) (hD.sub [0, 1, 2, 3] (by decide) rfl) hS dX5_fill_39
      · skip
        refine lv_aload_n hx hb dX5_fill_20 rfl (lv_at hl 0 rfl) ?_
        refine lv_aload_n hx hb dX5_fill_21 rfl (lv_at hl 1 rfl) ?_
        refine lv_iload_n hx hb dX5_fill_22 rfl (lv_at hl 3 rfl) ?_
        refine call_v (wr := []) (va_runV (As := [.ref h0, .int (nI at_)]) (rest := []) ⟨hx, hb, hml, hown, hts⟩ (kX5_add ln dg tq (u0 := u0) (u1 := u1) (f := f_) (h0 := h0) (h1 := h1) (c := c) (s := s) (hR := hR) (hW := hW) (v := v_) (hV := (by omega)) (e := at_) (he := (by omega)) H.size) (cwV 2 hts gX5_fill_X5_add rfl rfl rfl hdX5_add ⟨Nat.le_of_ble_eq_true rfl, Nat.le_of_ble_eq_true rfl⟩) (preVB hK hN hP hD [0, 1, 2, 3] rfl rfl rfl 0 rfl rfl [.ref h0, .int (nI at_)]) rfl rfl hl.1 rfl (lv_room (Nat.le_of_ble_eq_true rfl)) dX5_fill_23 ⟨Nat.le_refl _, Nat.le_refl _⟩) hP hD hS hA [0, 1, 2, 3] [] rfl rfl (by decide) (by decide) (fun u23 H locs hw23 hP hD hS => ?_)
        obtain ⟨g23, rfl⟩ : ∃ z, z = u23 := ⟨_, rfl⟩
        have hP : va_P dg vwCl [(u0, .inr (5, [.ref u1])), (u1, .inl (tq.1, 6, .inl g23)), (h0, .inr (1, [.ref h1])), (h1, .inl (tq.1, 1473, .inl c))] H := hP
        have hD : va_D AA [(u0, .inr (5, [.ref u1])), (u1, .inl (tq.1, 6, .inl g23)), (h0, .inr (1, [.ref h1])), (h1, .inl (tq.1, 1473, .inl c))] := hD
        refine lv_aload_n hx hb dX5_fill_26 rfl (lv_at hl 1 rfl) ?_
        refine lv_iload_n hx hb dX5_fill_27 rfl (lv_at hl 3 rfl) ?_
        refine lv_iconst (v := (nI 4)) hx hb dX5_fill_28 (by decide) ?_
        refine call_x (va_runV (As := [.int (nI at_), .int (nI 4)]) (rest := []) ⟨hx, hb, hml, hown, hts⟩ (kX1_ofEntry ln dg tq (h0 := h0) (h1 := h1) (c := c) (e := at_) (f := 4) (he := (by omega)) (hf := (by omega)) H.size) (cwV 2 hts gX5_fill_X1_ofEntry rfl rfl rfl hdX1_ofEntry ⟨Nat.le_of_ble_eq_true rfl, Nat.le_of_ble_eq_true rfl⟩) (preVR hK hN hP [2, 3] rfl 2 rfl rfl [.int (nI at_), .int (nI 4)]) rfl rfl hl.1 rfl (lv_room (Nat.le_of_ble_eq_true rfl)) dX5_fill_29 ⟨Nat.le_refl _, Nat.le_refl _⟩) hP hS hA (fun H locs hP hS => ?_)
        refine r_top (show (c (5 + at_ * 7 + 4)) = (nI (pa s at_)) from hR.xpa hW (by omega) (by omega)) ?_
        refine lv_istore_n (lv' := [(3, .int (nI (pa s at_))), (0, .ref u0), (1, .ref h0), (2, .int (nI leaf)), (4, .int (nI st_))]) hx hb dX5_fill_32 rfl hl (by decide) rfl (fun ls hl => ?_)
        refine lv_iinc (v := (nI (st_ + 1))) (lv' := [(4, .int (nI (st_ + 1))), (3, .int (nI (pa s at_))), (0, .ref u0), (1, .ref h0), (2, .int (nI leaf))]) hx hb dX5_fill_33 hl (k := 4) rfl (nI_add _ _) (by decide) rfl (fun ls hl => ?_)
        refine lv_goto (tgt := 9) hx hb dX5_fill_36 (by decide) ?_
        exact ih9 (pa s at_) (st_ + 1) g23 (addV s v_ at_) H locs ls (⟨by have hpl := hW.pl (e := at_) (by omega) (by omega); omega, hw23, fun a => by have h1 := hi3 a; have h2 := bal_s hW (e := at_) (by omega) (by omega) a; unfold addV; omega⟩) (by have hpl := hW.pl (e := at_) (by omega) (by omega); omega) (hP.sub [0, 1, 2, 3] rfl) (hD.sub [0, 1, 2, 3] (by decide) rfl) hS (lv_sub hl [2, 3, 4, 1, 0] rfl)
  exact loop9 _ leaf 0 g1 (fun _ => 0) H locs ls (⟨by omega, hw1, fun a => by omega⟩) (Nat.lt_succ_self _) (hP.sub [2, 3, 0, 1] rfl) (hD.sub [2, 3, 0, 1] (by decide) rfl) hS (lv_sub hl [2, 3, 4, 1, 0] rfl)
theorem hdX5_addIfAfforded : yX5_addIfAfforded.cls = RX5 ∧ yX5_addIfAfforded.cls ≠ "java/lang/invoke/MethodHandle" ∧ yX5_addIfAfforded.cls ≠ "java/lang/invoke/VarHandle" ∧ (parseMethodDescriptor yX5_addIfAfforded.desc).map (fun d => d.parameters.length) = some 2 := by decide +kernel
set_option maxHeartbeats 4000000 in
set_option maxRecDepth 100000 in
theorem kX5_addIfAfforded (ln : Launch) (dg : va_G) (tq : ClassId × ClassId) (u0 u1 : Nat) (f : Row) (h0 h1 : Nat) (c : Row) (s : Row) (hR : XR s c) (hW : WF s) (v : Nat → Int) (hV : SV f v) (N : Int) (hB : BV v N) (hn9 : N < 2000000000) (e : Nat) (he : e < nE s) : MW ln yX5_addIfAfforded wsX5_addIfAfforded (rmm 2 46) dg tq [.ref u0, .ref h0, .int (nI e)] [(u0, .inr (5, [.ref u1])), (u1, .inl (tq.1, 6, .inl f)), (h0, .inr (1, [.ref h1])), (h1, .inl (tq.1, 1473, .inl c))] (fun (r : Int32) (u : Row) => r = (bI (aff s v e)) ∧ (SV u (stp s v e))) (fun u => [(u0, .inr (5, [.ref u1])), (u1, .inl (tq.1, 6, .inl u)), (h0, .inr (1, [.ref h1])), (h1, .inl (tq.1, 1473, .inl c))]) := by
  refine MW.enter cX5_addIfAfforded 4 .boolean (by decide) rfl rfl (Nat.le_of_ble_eq_true rfl) ?_
  intro pP eE sS mM aA bB mT cC QQ AA hA hAT hret H locs hP hD hS ls hl
  obtain ⟨hx, hb, hml, hown, hts, hK, hN⟩ := hAT
  have hown : sS.vm.findClass RX5 = some mM.cls := hown
  have hl : lv_has ls 4 [(0, .ref u0), (1, .ref h0), (2, .int (nI e))] := hl
  have hn60 := hW.n60
  have hb10 := hW.b10
  have hs8 := hW.s8
  have h1l := hW.a1l he
  have h2l := hW.a2l he
  refine lv_aload_n hx hb dX5_addIfAfforded_0 rfl (lv_at hl 1 rfl) ?_
  refine lv_iload_n hx hb dX5_addIfAfforded_1 rfl (lv_at hl 2 rfl) ?_
  refine lv_iconst (v := (nI 1)) hx hb dX5_addIfAfforded_2 (by decide) ?_
  refine call_x (va_runV (As := [.int (nI e), .int (nI 1)]) (rest := []) ⟨hx, hb, hml, hown, hts⟩ (kX1_ofEntry ln dg tq (h0 := h0) (h1 := h1) (c := c) (e := e) (f := 1) (he := (by omega)) (hf := (by omega)) H.size) (cwV 2 hts gX5_addIfAfforded_X1_ofEntry rfl rfl rfl hdX1_ofEntry ⟨Nat.le_of_ble_eq_true rfl, Nat.le_of_ble_eq_true rfl⟩) (preVR hK hN hP [2, 3] rfl 2 rfl rfl [.int (nI e), .int (nI 1)]) rfl rfl hl.1 rfl (lv_room (Nat.le_of_ble_eq_true rfl)) dX5_addIfAfforded_3 ⟨Nat.le_refl _, Nat.le_refl _⟩) hP hS hA (fun H locs hP hS => ?_)
  refine r_top (show (c (5 + e * 7 + 1)) = (nI (a1 s e)) from hR.A1 hW (by omega)) ?_
  refine lv_istore_n (lv' := [(3, .int (nI (a1 s e))), (0, .ref u0), (1, .ref h0), (2, .int (nI e))]) hx hb dX5_addIfAfforded_6 rfl hl (by decide) rfl (fun ls hl => ?_)
  refine lv_aload_n hx hb dX5_addIfAfforded_7 rfl (lv_at hl 1 rfl) ?_
  refine lv_aload_n hx hb dX5_addIfAfforded_8 rfl (lv_at hl 2 rfl) ?_
  refine lv_iload_n hx hb dX5_addIfAfforded_9 rfl (lv_at hl 3 rfl) ?_
  refine lv_iconst (v := (nI 0)) hx hb dX5_addIfAfforded_10 (by decide) ?_
  refine call_x (va_runV (As := [.int (nI e), .int (nI 0)]) (rest := [.ref u0]) ⟨hx, hb, hml, hown, hts⟩ (kX1_ofEntry ln dg tq (h0 := h0) (h1 := h1) (c := c) (e := e) (f := 0) (he := (by omega)) (hf := (by omega)) H.size) (cwV 2 hts gX5_addIfAfforded_X1_ofEntry rfl rfl rfl hdX1_ofEntry ⟨Nat.le_of_ble_eq_true rfl, Nat.le_of_ble_eq_true rfl⟩) (preVR hK hN hP [2, 3] rfl 2 rfl rfl [.int (nI e), .int (nI 0)]) rfl rfl hl.1 rfl (lv_room (Nat.le_of_ble_eq_true rfl)) dX5_addIfAfforded_11 ⟨Nat.le_refl _, Nat.le_refl _⟩) hP hS hA (fun H locs hP hS => ?_)
  refine r_top (show (c (5 + e * 7 + 0)) = (me s e 1) from hR.xkd (by omega)) ?_
  refine lv_iload_n hx hb dX5_addIfAfforded_14 rfl (lv_at hl 0 rfl) ?_
  refine lv_aload_n hx hb dX5_addIfAfforded_15 rfl (lv_at hl 2 rfl) ?_
  refine lv_iload_n hx hb dX5_addIfAfforded_16 rfl (lv_at hl 3 rfl) ?_
  refine lv_iconst (v := (nI 3)) hx hb dX5_addIfAfforded_17 (by decide) ?_
  refine call_x (va_runV (As := [.int (nI e), .int (nI 3)]) (rest := [.int (nI (a1 s e)), .int (me s e 1), .ref u0]) ⟨hx, hb, hml, hown, hts⟩ (kX1_ofEntry ln dg tq (h0 := h0) (h1 := h1) (c := c) (e := e) (f := 3) (he := (by omega)) (hf := (by omega)) H.size) (cwV 2 hts gX5_addIfAfforded_X1_ofEntry rfl rfl rfl hdX1_ofEntry ⟨Nat.le_of_ble_eq_true rfl, Nat.le_of_ble_eq_true rfl⟩) (preVR hK hN hP [2, 3] rfl 2 rfl rfl [.int (nI e), .int (nI 3)]) rfl rfl hl.1 rfl (lv_room (Nat.le_of_ble_eq_true rfl)) dX5_addIfAfforded_18 ⟨Nat.le_refl _, Nat.le_refl _⟩) hP hS hA (fun H locs hP hS => ?_)
  refine r_top (show (c (5 + e * 7 + 3)) = (me s e 4) from hR.xam (by omega)) ?_
  refine call_x (va_runV (As := [.int (me s e 1), .int (nI (a1 s e)), .int (me s e 4)]) (rest := []) ⟨hx, hb, hml, hown, hts⟩ (kX5_affords ln dg tq (u0 := u0) (u1 := u1) (f := f) (k := (me s e 1)) (a := a1 s e) (amt := (me s e 4)) (ha := (by omega)) H.size) (cwV 3 hts gX5_addIfAfforded_X5_affords rfl rfl rfl hdX5_affords ⟨Nat.le_of_ble_eq_true rfl, Nat.le_of_ble_eq_true rfl⟩) (preVR hK hN hP [0, 1] rfl 0 rfl rfl [.int (me s e 1), .int (nI (a1 s e)), .int (me s e 4)]) rfl rfl hl.1 rfl (lv_room (Nat.le_of_ble_eq_true rfl)) dX5_addIfAfforded_21 ⟨Nat.le_refl _, Nat.le_refl _⟩) hP hS hA (fun H locs hP hS => ?_)
  refine r_top (show (bI (!decide ((me s e 1).toInt = 2 ∨ (me s e 1).toInt = 3) || decide ((me s e 4).toInt ≤ (f (a1 s e)).toInt))) = (bI (aff s v e)) from congrArg bI (aff_of hW he hV hB (by omega))) ?_
  refine r_if_ne_b (tgt := 29) hx hb dX5_addIfAfforded_24 (by decide) (fun c24 => ?_) (fun c24 => ?_)
  · skip
    refine lv_aload_n hx hb dX5_addIfAfforded_29 rfl (lv_at hl 1 rfl) ?_
    refine lv_aload_n hx hb dX5_addIfAfforded_30 rfl (lv_at hl 2 rfl) ?_
    refine lv_iload_n hx hb dX5_addIfAfforded_31 rfl (lv_at hl 3 rfl) ?_
    refine call_v (wr := []) (va_runV (As := [.ref h0, .int (nI e)]) (rest := []) ⟨hx, hb, hml, hown, hts⟩ (kX5_add ln dg tq (u0 := u0) (u1 := u1) (f := f) (h0 := h0) (h1 := h1) (c := c) (s := s) (hR := hR) (hW := hW) (v := v) (hV := hV) (e := e) (he := (by omega)) H.size) (cwV 2 hts gX5_addIfAfforded_X5_add rfl rfl rfl hdX5_add ⟨Nat.le_of_ble_eq_true rfl, Nat.le_of_ble_eq_true rfl⟩) (preVB hK hN hP hD [0, 1, 2, 3] rfl rfl rfl 0 rfl rfl [.ref h0, .int (nI e)]) rfl rfl hl.1 rfl (lv_room (Nat.le_of_ble_eq_true rfl)) dX5_addIfAfforded_32 ⟨Nat.le_refl _, Nat.le_refl _⟩) hP hD hS hA [0, 1, 2, 3] [] rfl rfl (by decide) (by decide) (fun u32 H locs hw32 hP hD hS => ?_)
    obtain ⟨g32, rfl⟩ : ∃ z, z = u32 := ⟨_, rfl⟩
    have hP : va_P dg vwCl [(u0, .inr (5, [.ref u1])), (u1, .inl (tq.1, 6, .inl g32)), (h0, .inr (1, [.ref h1])), (h1, .inl (tq.1, 1473, .inl c))] H := hP
    have hD : va_D AA [(u0, .inr (5, [.ref u1])), (u1, .inl (tq.1, 6, .inl g32)), (h0, .inr (1, [.ref h1])), (h1, .inl (tq.1, 1473, .inl c))] := hD
    refine lv_iconst (v := (nI 1)) hx hb dX5_addIfAfforded_35 (by decide) ?_
    exact hret (nI 1) (g32) H locs _ ls (⟨by rw [c24]; rfl, by unfold stp; rw [c24]; exact hw32⟩) rfl (hP.sub [0, 1, 2, 3] rfl) (hD.sub [0, 1, 2, 3] (by decide) rfl) hS dX5_addIfAfforded_36
  · skip
    refine lv_iconst (v := (nI 0)) hx hb dX5_addIfAfforded_27 (by decide) ?_
    exact hret (nI 0) (f) H locs _ ls (⟨by rw [c24]; rfl, by unfold stp; rw [c24]; exact hV⟩) rfl (hP.sub [0, 1, 2, 3] rfl) (hD.sub [0, 1, 2, 3] (by decide) rfl) hS dX5_addIfAfforded_28
