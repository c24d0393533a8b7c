theorem hdL_entries : yL_entries.cls = RL ∧ yL_entries.cls ≠ "java/lang/invoke/MethodHandle" ∧ yL_entries.cls ≠ "java/lang/invoke/VarHandle" ∧ (parseMethodDescriptor yL_entries.desc).map (fun d => d.parameters.length) = some 1 := by decide +kernel
set_option maxHeartbeats 4000000 in
set_option maxRecDepth 100000 in
theorem kL_entries (ln : Launch) (dg : va_G) (tq : ClassId × ClassId) (x0 xl xh xt xp xo xu xw : Nat)(xlc : Nat) (c : Row) (s : Row)(xhc : Nat) (st nx : Nat) (hc : Row)(hL : LX s c st nx)(xtc : Nat) (tl : Nat) (tx : Row)(xus : Nat) (uf : Row) : MW ln yL_entries wsL_entries (rmm 6 136) dg tq [.ref x0] [(x0, .inr (7, [.ref xl, .ref xh, .ref xt, .ref xp, .ref xo, .ref xu, .ref xw])), (xl, .inr (1, [.ref xlc])), (xlc, .inl (tq.1, 1473, .inl c)), (xh, .inr (0, [.ref xhc, .int (nI st), .int (nI nx)])), (xhc, .inl (tq.1, 7365, .inl hc)), (xt, .inr (6, [.ref xtc, .int (nI tl)])), (xtc, .inl (tq.1, 100, .inl tx)), (xu, .inr (5, [.ref xus])), (xus, .inl (tq.1, 6, .inl uf))] (fun (r : Int32) (u : Row) => r = (nI 1)) (fun u => [(x0, .inr (7, [.ref xl, .ref xh, .ref xt, .ref xp, .ref xo, .ref xu, .ref xw])), (xl, .inr (1, [.ref xlc])), (xlc, .inl (tq.1, 1473, .inl c)), (xh, .inr (0, [.ref xhc, .int (nI st), .int (nI nx)])), (xhc, .inl (tq.1, 7365, .inl hc)), (xt, .inr (6, [.ref xtc, .int (nI tl)])), (xtc, .inl (tq.1, 100, .inl tx)), (xu, .inr (5, [.ref xus])), (xus, .inl (tq.1, 6, .inl u))]) := by
  refine MW.enter cL_entries 10 .boolean (by decide) rfl rfl (Nat.le_of_ble_eq_true rfl) ?_
  intro pP eE sS mM aA bB mT cC QQ AA hA hAT hret H locs hP hD hS ls hl
  obtain ⟨hx, hb, hml, hown, hts, hK, hN⟩ := hAT
  have hown : sS.vm.findClass RL = some mM.cls := hown
  have hl : lv_has ls 10 [(0, .ref x0)] := hl
  have k19 := hts (.constant RL 19 (-100009)) (List.mem_of_getElem? (i := 1) rfl)
  obtain ⟨hF, hX, hst, hnx⟩ := id hL
  obtain ⟨hR, hW, hs0, hs1⟩ := id hF
  have hn60 := hW.n60
  have hb10 := hW.b10
  have hs8 := hW.s8
  have hhn := hW.hn
  have hcl := cntF_le (loudB s) (nB s)
  have hn1 := hW.n1
  have hdl := dep_le hW _ hW.hn
  have hd1 := dep_ge1 s (hE s)
  refine lv_aload_n hx hb dL_entries_0 rfl (lv_at hl 0 rfl) ?_
  refine lv_iconst (v := (nI 0)) hx hb dL_entries_1 (by decide) ?_
  refine call_x (va_runV (As := [.int (nI 0)]) (rest := []) ⟨hx, hb, hml, hown, hts⟩ (kX7_count ln dg tq (x0 := x0) (xl := xl) (xh := xh) (xt := xt) (xp := xp) (xo := xo) (xu := xu) (xw := xw) (xlc := xlc) (c := c) (s := s) (hF := hF) (xhc := xhc) (st := st) (nx := nx) (hc := hc) (xtc := xtc) (tl := tl) (tx := tx) (x := (nI 0)) H.size) (cwV 1 hts gL_entries_X7_count rfl rfl rfl hdX7_count ⟨Nat.le_of_ble_eq_true rfl, Nat.le_of_ble_eq_true rfl⟩) (preVR hK hN hP [0, 1, 2, 3, 4, 5, 6] rfl 0 rfl rfl [.int (nI 0)]) rfl rfl hl.1 rfl (lv_room (Nat.le_of_ble_eq_true rfl)) dL_entries_2 ⟨Nat.le_refl _, Nat.le_refl _⟩) hP hS hA (fun H locs hP hS => ?_)
  refine r_top (show (ctR s st tl (nI 0)) = (nI (nE s)) from ct_ (by omega)) ?_
  refine lv_istore_n (lv' := [(1, .int (nI (nE s))), (0, .ref x0)]) hx hb dL_entries_5 rfl hl (by decide) rfl (fun ls hl => ?_)
  refine lv_iconst (v := (nI 0)) hx hb dL_entries_6 (by decide) ?_
  refine lv_istore_n (lv' := [(2, .int (nI 0)), (1, .int (nI (nE s))), (0, .ref x0)]) hx hb dL_entries_7 rfl hl (by decide) rfl (fun ls hl => ?_)
  refine lv_iconst (v := (nI 0)) hx hb dL_entries_8 (by decide) ?_
  refine lv_istore_n (lv' := [(3, .int (nI 0)), (2, .int (nI 0)), (1, .int (nI (nE s))), (0, .ref x0)]) hx hb dL_entries_9 rfl hl (by decide) rfl (fun ls hl => ?_)
  refine lv_iconst (v := (nI 0)) hx hb dL_entries_10 (by decide) ?_
  refine lv_istore (lv' := [(4, .int (nI 0)), (3, .int (nI 0)), (2, .int (nI 0)), (1, .int (nI (nE s))), (0, .ref x0)]) hx hb dL_entries_11 hl (by decide) rfl (fun ls hl => ?_)
  refine lv_aload_n hx hb dL_entries_13 rfl (lv_at hl 4 rfl) ?_
  refine lv_iconst (v := (nI 0)) hx hb dL_entries_14 (by decide) ?_
  refine lv_iconst (v := (nI 0)) hx hb dL_entries_15 (by decide) ?_
  refine call_w (wr := [(xh, .inr (0, [.ref xhc, .int (nI st), .int (nI nx)])), (xhc, .inl (tq.1, 7365, .inl hc)), (xt, .inr (6, [.ref xtc, .int (nI tl)])), (xtc, .inl (tq.1, 100, .inl tx))]) (va_runV (As := [.int (nI 0), .int (nI 0)]) (rest := []) ⟨hx, hb, hml, hown, hts⟩ (kX7_entry ln dg tq (x0 := x0) (xl := xl) (xh := xh) (xt := xt) (xp := xp) (xo := xo) (xu := xu) (xw := xw) (xlc := xlc) (c := c) (s := s) (hF := hF) (xus := xus) (uf := uf) (x := (nI 0)) (w := (nI 0)) H.size) (cwV 2 hts gL_entries_X7_entry rfl rfl rfl hdX7_entry ⟨Nat.le_of_ble_eq_true rfl, Nat.le_of_ble_eq_true rfl⟩) (preVB hK hN hP hD [0, 1, 2, 7, 8] rfl rfl rfl 0 rfl rfl [.int (nI 0), .int (nI 0)]) rfl rfl hl.1 rfl (lv_room (Nat.le_of_ble_eq_true rfl)) dL_entries_16 ⟨Nat.le_refl _, Nat.le_refl _⟩) hP hD hS hA [0, 1, 2, 7, 8] [3, 4, 5, 6] rfl rfl (by decide) (by decide) (fun r16 u16 H locs hw16 hP hD hS => ?_)
  obtain ⟨uf216, rfl⟩ : ∃ z, z = u16 := ⟨_, rfl⟩
  have hP : va_P dg vwCl [(xh, .inr (0, [.ref xhc, .int (nI st), .int (nI nx)])), (xhc, .inl (tq.1, 7365, .inl hc)), (xt, .inr (6, [.ref xtc, .int (nI tl)])), (xtc, .inl (tq.1, 100, .inl tx)), (x0, .inr (7, [.ref xl, .ref xh, .ref xt, .ref xp, .ref xo, .ref xu, .ref xw])), (xl, .inr (1, [.ref xlc])), (xlc, .inl (tq.1, 1473, .inl c)), (xu, .inr (5, [.ref xus])), (xus, .inl (tq.1, 6, .inl uf216))] H := hP
  have hD : va_D AA [(xh, .inr (0, [.ref xhc, .int (nI st), .int (nI nx)])), (xhc, .inl (tq.1, 7365, .inl hc)), (xt, .inr (6, [.ref xtc, .int (nI tl)])), (xtc, .inl (tq.1, 100, .inl tx)), (x0, .inr (7, [.ref xl, .ref xh, .ref xt, .ref xp, .ref xo, .ref xu, .ref xw])), (xl, .inr (1, [.ref xlc])), (xlc, .inl (tq.1, 1473, .inl c)), (xu, .inr (5, [.ref xus])), (xus, .inl (tq.1, 6, .inl uf216))] := hD
  subst hw16
  refine r_top (show (etR s (nI 0) (nI 0)) = (nI 0) from (et_ (by omega) (by omega) (by omega)).trans hW.k0) ?_
  refine r_if_ne (tgt := 50) hx hb (nI_tI (by omega)) dL_entries_19 (by decide) (fun c19 => False.elim (by omega)) (fun c19 => ?_)
  refine lv_aload_n hx hb dL_entries_22 rfl (lv_at hl 4 rfl) ?_
  refine lv_iconst (v := (nI 0)) hx hb dL_entries_23 (by decide) ?_
  refine lv_iconst (v := (nI 5)) hx hb dL_entries_24 (by decide) ?_
  refine call_w (wr := [(xh, .inr (0, [.ref xhc, .int (nI st), .int (nI nx)])), (xhc, .inl (tq.1, 7365, .inl hc)), (xt, .inr (6, [.ref xtc, .int (nI tl)])), (xtc, .inl (tq.1, 100, .inl tx))]) (va_runV (As := [.int (nI 0), .int (nI 5)]) (rest := []) ⟨hx, hb, hml, hown, hts⟩ (kX7_entry ln dg tq (x0 := x0) (xl := xl) (xh := xh) (xt := xt) (xp := xp) (xo := xo) (xu := xu) (xw := xw) (xlc := xlc) (c := c) (s := s) (hF := hF) (xus := xus) (uf := uf216) (x := (nI 0)) (w := (nI 5)) H.size) (cwV 2 hts gL_entries_X7_entry rfl rfl rfl hdX7_entry ⟨Nat.le_of_ble_eq_true rfl, Nat.le_of_ble_eq_true rfl⟩) (preVB hK hN hP hD [4, 5, 6, 7, 8] rfl rfl rfl 4 rfl rfl [.int (nI 0), .int (nI 5)]) rfl rfl hl.1 rfl (lv_room (Nat.le_of_ble_eq_true rfl)) dL_entries_25 ⟨Nat.le_refl _, Nat.le_refl _⟩) hP hD hS hA [4, 5, 6, 7, 8] [0, 1, 2, 3] rfl rfl (by decide) (by decide) (fun r25 u25 H locs hw25 hP hD hS => ?_)
  obtain ⟨uf225, rfl⟩ : ∃ z, z = u25 := ⟨_, rfl⟩
  have hP : va_P dg vwCl [(xh, .inr (0, [.ref xhc, .int (nI st), .int (nI nx)])), (xhc, .inl (tq.1, 7365, .inl hc)), (xt, .inr (6, [.ref xtc, .int (nI tl)])), (xtc, .inl (tq.1, 100, .inl tx)), (x0, .inr (7, [.ref xl, .ref xh, .ref xt, .ref xp, .ref xo, .ref xu, .ref xw])), (xl, .inr (1, [.ref xlc])), (xlc, .inl (tq.1, 1473, .inl c)), (xu, .inr (5, [.ref xus])), (xus, .inl (tq.1, 6, .inl uf225))] H := hP
  have hD : va_D AA [(xh, .inr (0, [.ref xhc, .int (nI st), .int (nI nx)])), (xhc, .inl (tq.1, 7365, .inl hc)), (xt, .inr (6, [.ref xtc, .int (nI tl)])), (xtc, .inl (tq.1, 100, .inl tx)), (x0, .inr (7, [.ref xl, .ref xh, .ref xt, .ref xp, .ref xo, .ref xu, .ref xw])), (xl, .inr (1, [.ref xlc])), (xlc, .inl (tq.1, 1473, .inl c)), (xu, .inr (5, [.ref xus])), (xus, .inl (tq.1, 6, .inl uf225))] := hD
  subst hw25
  refine r_top (show (etR s (nI 0) (nI 5)) = (nI 1) from (et_ (by omega) (by omega) (by omega)).trans hX.2.1) ?_
  refine r_if_lt (tgt := 50) hx hb (nI_tI (by omega)) dL_entries_28 (by decide) (fun c28 => False.elim (by omega)) (fun c28 => ?_)
  refine lv_aload_n hx hb dL_entries_31 rfl (lv_at hl 4 rfl) ?_
  refine lv_aload_n hx hb dL_entries_32 rfl (lv_at hl 4 rfl) ?_
  refine lv_iconst (v := (nI 1)) hx hb dL_entries_33 (by decide) ?_
  refine call_x (va_runV (As := [.int (nI 1)]) (rest := [.ref x0]) ⟨hx, hb, hml, hown, hts⟩ (kX7_count ln dg tq (x0 := x0) (xl := xl) (xh := xh) (xt := xt) (xp := xp) (xo := xo) (xu := xu) (xw := xw) (xlc := xlc) (c := c) (s := s) (hF := hF) (xhc := xhc) (st := st) (nx := nx) (hc := hc) (xtc := xtc) (tl := tl) (tx := tx) (x := (nI 1)) H.size) (cwV 1 hts gL_entries_X7_count rfl rfl rfl hdX7_count ⟨Nat.le_of_ble_eq_true rfl, Nat.le_of_ble_eq_true rfl⟩) (preVR hK hN hP [4, 5, 6, 0, 1, 2, 3] rfl 4 rfl rfl [.int (nI 1)]) rfl rfl hl.1 rfl (lv_room (Nat.le_of_ble_eq_true rfl)) dL_entries_34 ⟨Nat.le_refl _, Nat.le_refl _⟩) hP hS hA (fun H locs hP hS => ?_)
  refine r_top (show (ctR s st tl (nI 1)) = (nI (hE s)) from ct_ (by omega)) ?_
  refine lv_bipush (v := (nI 7)) hx hb dL_entries_37 (by decide) ?_
  refine call_w (wr := [(xh, .inr (0, [.ref xhc, .int (nI st), .int (nI nx)])), (xhc, .inl (tq.1, 7365, .inl hc)), (xt, .inr (6, [.ref xtc, .int (nI tl)])), (xtc, .inl (tq.1, 100, .inl tx))]) (va_runV (As := [.int (nI (hE s)), .int (nI 7)]) (rest := []) ⟨hx, hb, hml, hown, hts⟩ (kX7_entry ln dg tq (x0 := x0) (xl := xl) (xh := xh) (xt := xt) (xp := xp) (xo := xo) (xu := xu) (xw := xw) (xlc := xlc) (c := c) (s := s) (hF := hF) (xus := xus) (uf := uf225) (x := (nI (hE s))) (w := (nI 7)) H.size) (cwV 2 hts gL_entries_X7_entry rfl rfl rfl hdX7_entry ⟨Nat.le_of_ble_eq_true rfl, Nat.le_of_ble_eq_true rfl⟩) (preVB hK hN hP hD [4, 5, 6, 7, 8] rfl rfl rfl 4 rfl rfl [.int (nI (hE s)), .int (nI 7)]) rfl rfl hl.1 rfl (lv_room (Nat.le_of_ble_eq_true rfl)) dL_entries_39 ⟨Nat.le_refl _, Nat.le_refl _⟩) hP hD hS hA [4, 5, 6, 7, 8] [0, 1, 2, 3] rfl rfl (by decide) (by decide) (fun r39 u39 H locs hw39 hP hD hS => ?_)
  obtain ⟨uf239, rfl⟩ : ∃ z, z = u39 := ⟨_, rfl⟩
  have hP : va_P dg vwCl [(xh, .inr (0, [.ref xhc, .int (nI st), .int (nI nx)])), (xhc, .inl (tq.1, 7365, .inl hc)), (xt, .inr (6, [.ref xtc, .int (nI tl)])), (xtc, .inl (tq.1, 100, .inl tx)), (x0, .inr (7, [.ref xl, .ref xh, .ref xt, .ref xp, .ref xo, .ref xu, .ref xw])), (xl, .inr (1, [.ref xlc])), (xlc, .inl (tq.1, 1473, .inl c)), (xu, .inr (5, [.ref xus])), (xus, .inl (tq.1, 6, .inl uf239))] H := hP
  have hD : va_D AA [(xh, .inr (0, [.ref xhc, .int (nI st), .int (nI nx)])), (xhc, .inl (tq.1, 7365, .inl hc)), (xt, .inr (6, [.ref xtc, .int (nI tl)])), (xtc, .inl (tq.1, 100, .inl tx)), (x0, .inr (7, [.ref xl, .ref xh, .ref xt, .ref xp, .ref xo, .ref xu, .ref xw])), (xl, .inr (1, [.ref xlc])), (xlc, .inl (tq.1, 1473, .inl c)), (xu, .inr (5, [.ref xus])), (xus, .inl (tq.1, 6, .inl uf239))] := hD
  subst hw39
  refine r_top (show (etR s (nI (hE s)) (nI 7)) = (nI 1) from (et_ (by omega) (by omega) (by omega)).trans (et7 (onP_self s (hE s)))) ?_
  refine lv_iconst (v := (nI 1)) hx hb dL_entries_42 (by decide) ?_
  refine r_icmp_ne (tgt := 50) hx hb (nI_tI (by omega)) (nI_tI (by omega)) dL_entries_43 (by decide) (fun c43 => False.elim (by omega)) (fun c43 => ?_)
  refine lv_iconst (v := (nI 1)) hx hb dL_entries_46 (by decide) ?_
  refine lv_goto (tgt := 51) hx hb dL_entries_47 (by decide) ?_
  refine lv_istore (lv' := [(5, .int (nI 1)), (4, .int (nI 0)), (3, .int (nI 0)), (2, .int (nI 0)), (1, .int (nI (nE s))), (0, .ref x0)]) hx hb dL_entries_51 hl (by decide) rfl (fun ls hl => ?_)
  refine lv_iconst (v := (nI 0)) hx hb dL_entries_53 (by decide) ?_
  refine lv_istore (lv' := [(6, .int (nI 0)), (5, .int (nI 1)), (4, .int (nI 0)), (3, .int (nI 0)), (2, .int (nI 0)), (1, .int (nI (nE s))), (0, .ref x0)]) hx hb dL_entries_54 hl (by decide) rfl (fun ls hl => ?_)
  have loop56 : ∀ (fu : Nat) (e_ : Nat) (f_ : Row) (H : Heap) (locs : List Loc) (ls : Array Slot), (e_ ≤ nE s) → nE s - e_ < fu → va_P dg vwCl [(x0, .inr (7, [.ref xl, .ref xh, .ref xt, .ref xp, .ref xo, .ref xu, .ref xw])), (xl, .inr (1, [.ref xlc])), (xlc, .inl (tq.1, 1473, .inl c)), (xh, .inr (0, [.ref xhc, .int (nI st), .int (nI nx)])), (xhc, .inl (tq.1, 7365, .inl hc)), (xt, .inr (6, [.ref xtc, .int (nI tl)])), (xtc, .inl (tq.1, 100, .inl tx)), (xu, .inr (5, [.ref xus])), (xus, .inl (tq.1, 6, .inl f_))] H → va_D AA [(x0, .inr (7, [.ref xl, .ref xh, .ref xt, .ref xp, .ref xo, .ref xu, .ref xw])), (xl, .inr (1, [.ref xlc])), (xlc, .inl (tq.1, 1473, .inl c)), (xh, .inr (0, [.ref xhc, .int (nI st), .int (nI nx)])), (xhc, .inl (tq.1, 7365, .inl hc)), (xt, .inr (6, [.ref xtc, .int (nI tl)])), (xtc, .inl (tq.1, 100, .inl tx)), (xu, .inr (5, [.ref xus])), (xus, .inl (tq.1, 6, .inl f_))] → va_S AA sS.heap H locs → lv_has ls 10 [(0, .ref x0), (1, .int (nI (nE s))), (2, .int (nI (cntF (fun k => onP s k (hE s)) e_))), (3, .int (nI (cntF (leafB s) e_))), (4, .int (nI (cntF (fun k => !fitE s k) e_))), (5, .int (nI 1)), (6, .int (nI e_))] → W pP ln eE (rmm 6 136) sS mM aA bB mT cC H locs 0 0 QQ (F0 mM 56 ls []) := by
    intro fu
    induction fu with
    | zero => intro e_ f_ H locs ls _ hm; exact absurd hm (Nat.not_lt_zero _)
    | succ fu ih56 =>
      intro e_ f_ H locs ls hinv hm hP hD hS hl
      refine lv_iload hx hb dL_entries_56 (lv_at hl 6 rfl) ?_
      refine lv_iload_n hx hb dL_entries_58 rfl (lv_at hl 1 rfl) ?_
      refine r_icmp_ge (tgt := 288) hx hb (nI_tI (by omega)) (nI_tI (by omega)) dL_entries_59 (by decide) (fun c59 => ?_) (fun c59 => ?_)
      · skip
        have he_ : e_ = nE s := (by omega)
        subst he_
        have hk1 := cntF_le (fun k => onP s k (hE s)) (nE s)
        have hk2 := cntF_le (leafB s) (nE s)
        have hk3 := cntF_le (fun k => !fitE s k) (nE s)
        refine lv_iload hx hb dL_entries_288 (lv_at hl 5 rfl) ?_
        refine r_if_eq (tgt := 356) hx hb (nI_tI (by omega)) dL_entries_290 (by decide) (fun c290 => False.elim (by omega)) (fun c290 => ?_)
        refine lv_aload_n hx hb dL_entries_293 rfl (lv_at hl 0 rfl) ?_
        refine lv_iconst (v := (nI 2)) hx hb dL_entries_294 (by decide) ?_
        refine call_x (va_runV (As := [.int (nI 2)]) (rest := []) ⟨hx, hb, hml, hown, hts⟩ (kX7_count ln dg tq (x0 := x0) (xl := xl) (xh := xh) (xt := xt) (xp := xp) (xo := xo) (xu := xu) (xw := xw) (xlc := xlc) (c := c) (s := s) (hF := hF) (xhc := xhc) (st := st) (nx := nx) (hc := hc) (xtc := xtc) (tl := tl) (tx := tx) (x := (nI 2)) H.size) (cwV 1 hts gL_entries_X7_count rfl rfl rfl hdX7_count ⟨Nat.le_of_ble_eq_true rfl, Nat.le_of_ble_eq_true rfl⟩) (preVR hK hN hP [0, 1, 2, 3, 4, 5, 6] rfl 0 rfl rfl [.int (nI 2)]) rfl rfl hl.1 rfl (lv_room (Nat.le_of_ble_eq_true rfl)) dL_entries_295 ⟨Nat.le_refl _, Nat.le_refl _⟩) hP hS hA (fun H locs hP hS => ?_)
        refine r_top (show (ctR s st tl (nI 2)) = (nI (dep s (hE s))) from ct_ (by omega)) ?_
        refine lv_iload_n hx hb dL_entries_298 rfl (lv_at hl 2 rfl) ?_
        refine r_icmp_ne (tgt := 356) hx hb (nI_tI (by omega)) (nI_tI (by omega)) dL_entries_299 (by decide) (fun c299 => False.elim (by rw [on_cnt hW] at c299; exact c299 rfl)) (fun c299 => ?_)
        refine lv_aload_n hx hb dL_entries_302 rfl (lv_at hl 0 rfl) ?_
        refine lv_bipush (v := (nI 9)) hx hb dL_entries_303 (by decide) ?_
        refine call_x (va_runV (As := [.int (nI 9)]) (rest := []) ⟨hx, hb, hml, hown, hts⟩ (kX7_count ln dg tq (x0 := x0) (xl := xl) (xh := xh) (xt := xt) (xp := xp) (xo := xo) (xu := xu) (xw := xw) (xlc := xlc) (c := c) (s := s) (hF := hF) (xhc := xhc) (st := st) (nx := nx) (hc := hc) (xtc := xtc) (tl := tl) (tx := tx) (x := (nI 9)) H.size) (cwV 1 hts gL_entries_X7_count rfl rfl rfl hdX7_count ⟨Nat.le_of_ble_eq_true rfl, Nat.le_of_ble_eq_true rfl⟩) (preVR hK hN hP [0, 1, 2, 3, 4, 5, 6] rfl 0 rfl rfl [.int (nI 9)]) rfl rfl hl.1 rfl (lv_room (Nat.le_of_ble_eq_true rfl)) dL_entries_305 ⟨Nat.le_refl _, Nat.le_refl _⟩) hP hS hA (fun H locs hP hS => ?_)
        refine r_top (show (ctR s st tl (nI 9)) = (nI (cntF (fun k => !fitE s k) (nE s))) from ct_ (by omega)) ?_
        refine lv_iload hx hb dL_entries_308 (lv_at hl 4 rfl) ?_
        refine r_icmp_ne (tgt := 356) hx hb (nI_tI (by omega)) (nI_tI (by omega)) dL_entries_310 (by decide) (fun c310 => False.elim (by exact c310 rfl)) (fun c310 => ?_)
        refine lv_aload_n hx hb dL_entries_313 rfl (lv_at hl 0 rfl) ?_
        refine lv_bipush (v := (nI 11)) hx hb dL_entries_314 (by decide) ?_
        refine call_x (va_runV (As := [.int (nI 11)]) (rest := []) ⟨hx, hb, hml, hown, hts⟩ (kX7_count ln dg tq (x0 := x0) (xl := xl) (xh := xh) (xt := xt) (xp := xp) (xo := xo) (xu := xu) (xw := xw) (xlc := xlc) (c := c) (s := s) (hF := hF) (xhc := xhc) (st := st) (nx := nx) (hc := hc) (xtc := xtc) (tl := tl) (tx := tx) (x := (nI 11)) H.size) (cwV 1 hts gL_entries_X7_count rfl rfl rfl hdX7_count ⟨Nat.le_of_ble_eq_true rfl, Nat.le_of_ble_eq_true rfl⟩) (preVR hK hN hP [0, 1, 2, 3, 4, 5, 6] rfl 0 rfl rfl [.int (nI 11)]) rfl rfl hl.1 rfl (lv_room (Nat.le_of_ble_eq_true rfl)) dL_entries_316 ⟨Nat.le_refl _, Nat.le_refl _⟩) hP hS hA (fun H locs hP hS => ?_)
        refine r_top (show (ctR s st tl (nI 11)) = (nI (cntF (leafB s) (nE s))) from ct_ (by omega)) ?_
        refine lv_iload_n hx hb dL_entries_319 rfl (lv_at hl 3 rfl) ?_
        refine r_icmp_ne (tgt := 356) hx hb (nI_tI (by omega)) (nI_tI (by omega)) dL_entries_320 (by decide) (fun c320 => False.elim (by exact c320 rfl)) (fun c320 => ?_)
        refine lv_aload_n hx hb dL_entries_323 rfl (lv_at hl 0 rfl) ?_
        refine lv_bipush (v := (nI 10)) hx hb dL_entries_324 (by decide) ?_
        refine call_x (va_runV (As := [.int (nI 10)]) (rest := []) ⟨hx, hb, hml, hown, hts⟩ (kX7_count ln dg tq (x0 := x0) (xl := xl) (xh := xh) (xt := xt) (xp := xp) (xo := xo) (xu := xu) (xw := xw) (xlc := xlc) (c := c) (s := s) (hF := hF) (xhc := xhc) (st := st) (nx := nx) (hc := hc) (xtc := xtc) (tl := tl) (tx := tx) (x := (nI 10)) H.size) (cwV 1 hts gL_entries_X7_count rfl rfl rfl hdX7_count ⟨Nat.le_of_ble_eq_true rfl, Nat.le_of_ble_eq_true rfl⟩) (preVR hK hN hP [0, 1, 2, 3, 4, 5, 6] rfl 0 rfl rfl [.int (nI 10)]) rfl rfl hl.1 rfl (lv_room (Nat.le_of_ble_eq_true rfl)) dL_entries_326 ⟨Nat.le_refl _, Nat.le_refl _⟩) hP hS hA (fun H locs hP hS => ?_)
        refine r_top (show (ctR s st tl (nI 10)) = (fstF (fun k => !fitE s k) 0 (nE s)) from ct_ (by omega)) ?_
        refine lv_ldc hx hb hown k19 dL_entries_329 ?_
        refine r_icmp_ne (tgt := 338) hx hb rfl (by decide : ((-100009) : Int32).toInt = (-100009)) dL_entries_331 (by decide) (fun c331 => ?_) (fun c331 => ?_)
        · skip
          refine lv_iconst (v := (nI 0)) hx hb dL_entries_338 (by decide) ?_
          refine lv_iload hx hb dL_entries_339 (lv_at hl 4 rfl) ?_
          refine r_if_ne (tgt := 348) hx hb (nI_tI (by omega)) dL_entries_341 (by decide) (fun c341 => ?_) (fun c341 => False.elim (by exact c331 ((fst_cnt (by omega)).mpr (by omega))))
          refine lv_iconst (v := (nI 0)) hx hb dL_entries_348 (by decide) ?_
          refine r_icmp_ne (tgt := 356) hx hb (nI_tI (by omega)) (nI_tI (by omega)) dL_entries_349 (by decide) (fun c349 => False.elim (by omega)) (fun c349 => ?_)
          refine lv_iconst (v := (nI 1)) hx hb dL_entries_352 (by decide) ?_
          refine lv_goto (tgt := 357) hx hb dL_entries_353 (by decide) ?_
          exact hret (nI 1) (f_) H locs _ ls (rfl) rfl (hP.sub [0, 1, 2, 3, 4, 5, 6, 7, 8] rfl) (hD.sub [0, 1, 2, 3, 4, 5, 6, 7, 8] (by decide) rfl) hS dL_entries_357
        · skip
          refine lv_iconst (v := (nI 1)) hx hb dL_entries_334 (by decide) ?_
          refine lv_goto (tgt := 339) hx hb dL_entries_335 (by decide) ?_
          refine lv_iload hx hb dL_entries_339 (lv_at hl 4 rfl) ?_
          refine r_if_ne (tgt := 348) hx hb (nI_tI (by omega)) dL_entries_341 (by decide) (fun c341 => False.elim (by have q := (fst_cnt (by omega)).mp c331; omega)) (fun c341 => ?_)
          refine lv_iconst (v := (nI 1)) hx hb dL_entries_344 (by decide) ?_
          refine lv_goto (tgt := 349) hx hb dL_entries_345 (by decide) ?_
          refine r_icmp_ne (tgt := 356) hx hb (nI_tI (by omega)) (nI_tI (by omega)) dL_entries_349 (by decide) (fun c349 => False.elim (by omega)) (fun c349 => ?_)
          refine lv_iconst (v := (nI 1)) hx hb dL_entries_352 (by decide) ?_
          refine lv_goto (tgt := 357) hx hb dL_entries_353 (by decide) ?_
          exact hret (nI 1) (f_) H locs _ ls (rfl) rfl (hP.sub [0, 1, 2, 3, 4, 5, 6, 7, 8] rfl) (hD.sub [0, 1, 2, 3, 4, 5, 6, 7, 8] (by decide) rfl) hS dL_entries_357
      · skip
        refine lv_iload hx hb dL_entries_62 (lv_at hl 5 rfl) ?_
        refine r_if_eq (tgt := 288) hx hb (nI_tI (by omega)) dL_entries_64 (by decide) (fun c64 => False.elim (by omega)) (fun c64 => ?_)
        refine lv_aload_n hx hb dL_entries_67 rfl (lv_at hl 0 rfl) ?_
        refine lv_iload hx hb dL_entries_68 (lv_at hl 6 rfl) ?_
        refine lv_iconst (v := (nI 4)) hx hb dL_entries_70 (by decide) ?_
        refine call_w (wr := [(xh, .inr (0, [.ref xhc, .int (nI st), .int (nI nx)])), (xhc, .inl (tq.1, 7365, .inl hc)), (xt, .inr (6, [.ref xtc, .int (nI tl)])), (xtc, .inl (tq.1, 100, .inl tx))]) (va_runV (As := [.int (nI e_), .int (nI 4)]) (rest := []) ⟨hx, hb, hml, hown, hts⟩ (kX7_entry ln dg tq (x0 := x0) (xl := xl) (xh := xh) (xt := xt) (xp := xp) (xo := xo) (xu := xu) (xw := xw) (xlc := xlc) (c := c) (s := s) (hF := hF) (xus := xus) (uf := f_) (x := (nI e_)) (w := (nI 4)) H.size) (cwV 2 hts gL_entries_X7_entry rfl rfl rfl hdX7_entry ⟨Nat.le_of_ble_eq_true rfl, Nat.le_of_ble_eq_true rfl⟩) (preVB hK hN hP hD [0, 1, 2, 7, 8] rfl rfl rfl 0 rfl rfl [.int (nI e_), .int (nI 4)]) rfl rfl hl.1 rfl (lv_room (Nat.le_of_ble_eq_true rfl)) dL_entries_71 ⟨Nat.le_refl _, Nat.le_refl _⟩) hP hD hS hA [0, 1, 2, 7, 8] [3, 4, 5, 6] rfl rfl (by decide) (by decide) (fun r71 u71 H locs hw71 hP hD hS => ?_)
        obtain ⟨uf271, rfl⟩ : ∃ z, z = u71 := ⟨_, rfl⟩
        have hP : va_P dg vwCl [(xh, .inr (0, [.ref xhc, .int (nI st), .int (nI nx)])), (xhc, .inl (tq.1, 7365, .inl hc)), (xt, .inr (6, [.ref xtc, .int (nI tl)])), (xtc, .inl (tq.1, 100, .inl tx)), (x0, .inr (7, [.ref xl, .ref xh, .ref xt, .ref xp, .ref xo, .ref xu, .ref xw])), (xl, .inr (1, [.ref xlc])), (xlc, .inl (tq.1, 1473, .inl c)), (xu, .inr (5, [.ref xus])), (xus, .inl (tq.1, 6, .inl uf271))] H := hP
        have hD : va_D AA [(xh, .inr (0, [.ref xhc, .int (nI st), .int (nI nx)])), (xhc, .inl (tq.1, 7365, .inl hc)), (xt, .inr (6, [.ref xtc, .int (nI tl)])), (xtc, .inl (tq.1, 100, .inl tx)), (x0, .inr (7, [.ref xl, .ref xh, .ref xt, .ref xp, .ref xo, .ref xu, .ref xw])), (xl, .inr (1, [.ref xlc])), (xlc, .inl (tq.1, 1473, .inl c)), (xu, .inr (5, [.ref xus])), (xus, .inl (tq.1, 6, .inl uf271))] := hD
        subst hw71
        refine r_top (show (etR s (nI e_) (nI 4)) = (me s e_ 0) from (et_ (by omega) (by omega) (by omega))) ?_
        refine lv_istore (lv' := [(7, .int (me s e_ 0)), (0, .ref x0), (1, .int (nI (nE s))), (2, .int (nI (cntF (fun k => onP s k (hE s)) e_))), (3, .int (nI (cntF (leafB s) e_))), (4, .int (nI (cntF (fun k => !fitE s k) e_))), (5, .int (nI 1)), (6, .int (nI e_))]) hx hb dL_entries_74 hl (by decide) rfl (fun ls hl => ?_)
        refine lv_iload_n hx hb dL_entries_76 rfl (lv_at hl 3 rfl) ?_
        refine lv_aload_n hx hb dL_entries_77 rfl (lv_at hl 1 rfl) ?_
        refine lv_iload hx hb dL_entries_78 (lv_at hl 7 rfl) ?_
        refine lv_bipush (v := (nI 7)) hx hb dL_entries_80 (by decide) ?_
        refine call_w (wr := [(xh, .inr (0, [.ref xhc, .int (nI st), .int (nI nx)])), (xhc, .inl (tq.1, 7365, .inl hc)), (xt, .inr (6, [.ref xtc, .int (nI tl)])), (xtc, .inl (tq.1, 100, .inl tx))]) (va_runV (As := [.int (nI e_), .int (nI 7)]) (rest := [.int (nI (cntF (fun k => onP s k (hE s)) e_))]) ⟨hx, hb, hml, hown, hts⟩ (kX7_entry ln dg tq (x0 := x0) (xl := xl) (xh := xh) (xt := xt) (xp := xp) (xo := xo) (xu := xu) (xw := xw) (xlc := xlc) (c := c) (s := s) (hF := hF) (xus := xus) (uf := uf271) (x := (nI e_)) (w := (nI 7)) H.size) (cwV 2 hts gL_entries_X7_entry rfl rfl rfl hdX7_entry ⟨Nat.le_of_ble_eq_true rfl, Nat.le_of_ble_eq_true rfl⟩) (preVB hK hN hP hD [4, 5, 6, 7, 8] rfl rfl rfl 4 rfl rfl [.int (nI e_), .int (nI 7)]) rfl rfl hl.1 rfl (lv_room (Nat.le_of_ble_eq_true rfl)) dL_entries_82 ⟨Nat.le_refl _, Nat.le_refl _⟩) hP hD hS hA [4, 5, 6, 7, 8] [0, 1, 2, 3] rfl rfl (by decide) (by decide) (fun r82 u82 H locs hw82 hP hD hS => ?_)
        obtain ⟨uf282, rfl⟩ : ∃ z, z = u82 := ⟨_, rfl⟩
        have hP : va_P dg vwCl [(xh, .inr (0, [.ref xhc, .int (nI st), .int (nI nx)])), (xhc, .inl (tq.1, 7365, .inl hc)), (xt, .inr (6, [.ref xtc, .int (nI tl)])), (xtc, .inl (tq.1, 100, .inl tx)), (x0, .inr (7, [.ref xl, .ref xh, .ref xt, .ref xp, .ref xo, .ref xu, .ref xw])), (xl, .inr (1, [.ref xlc])), (xlc, .inl (tq.1, 1473, .inl c)), (xu, .inr (5, [.ref xus])), (xus, .inl (tq.1, 6, .inl uf282))] H := hP
        have hD : va_D AA [(xh, .inr (0, [.ref xhc, .int (nI st), .int (nI nx)])), (xhc, .inl (tq.1, 7365, .inl hc)), (xt, .inr (6, [.ref xtc, .int (nI tl)])), (xtc, .inl (tq.1, 100, .inl tx)), (x0, .inr (7, [.ref xl, .ref xh, .ref xt, .ref xp, .ref xo, .ref xu, .ref xw])), (xl, .inr (1, [.ref xlc])), (xlc, .inl (tq.1, 1473, .inl c)), (xu, .inr (5, [.ref xus])), (xus, .inl (tq.1, 6, .inl uf282))] := hD
        subst hw82
        refine r_top (show (etR s (nI e_) (nI 7)) = (nI (if onP s e_ (hE s) = true then 1 else 0)) from (et_ (by omega) (by omega) (by omega)).trans (bI_nat _)) ?_
        refine r_iadd_n hx hb dL_entries_85 ?_
        refine lv_istore_n (lv' := [(2, .int (nI ((cntF (fun k => onP s k (hE s)) e_) + (if onP s e_ (hE s) = true then 1 else 0)))), (7, .int (me s e_ 0)), (0, .ref x0), (1, .int (nI (nE s))), (3, .int (nI (cntF (leafB s) e_))), (4, .int (nI (cntF (fun k => !fitE s k) e_))), (5, .int (nI 1)), (6, .int (nI e_))]) hx hb dL_entries_86 rfl hl (by decide) rfl (fun ls hl => ?_)
        have hl : lv_has ls 10 [(2, .int (nI (cntF (fun k => onP s k (hE s)) (e_ + 1)))), (7, .int (me s e_ 0)), (0, .ref x0), (1, .int (nI (nE s))), (3, .int (nI (cntF (leafB s) e_))), (4, .int (nI (cntF (fun k => !fitE s k) e_))), (5, .int (nI 1)), (6, .int (nI e_))] := by have el : (nI ((cntF (fun k => onP s k (hE s)) e_) + (if onP s e_ (hE s) = true then 1 else 0))) = (nI (cntF (fun k => onP s k (hE s)) (e_ + 1))) := (rfl); rw [← el]; exact hl
        refine lv_iload hx hb dL_entries_87 (lv_at hl 5 rfl) ?_
        refine lv_iconst (v := (nI 1)) hx hb dL_entries_89 (by decide) ?_
        refine lv_aload_n hx hb dL_entries_90 rfl (lv_at hl 2 rfl) ?_
        refine lv_iload hx hb dL_entries_91 (lv_at hl 7 rfl) ?_
        refine lv_bipush (v := (nI 6)) hx hb dL_entries_93 (by decide) ?_
        refine call_w (wr := [(xh, .inr (0, [.ref xhc, .int (nI st), .int (nI nx)])), (xhc, .inl (tq.1, 7365, .inl hc)), (xt, .inr (6, [.ref xtc, .int (nI tl)])), (xtc, .inl (tq.1, 100, .inl tx))]) (va_runV (As := [.int (nI e_), .int (nI 6)]) (rest := [.int (nI 1), .int (nI (cntF (fun k => !fitE s k) e_))]) ⟨hx, hb, hml, hown, hts⟩ (kX7_entry ln dg tq (x0 := x0) (xl := xl) (xh := xh) (xt := xt) (xp := xp) (xo := xo) (xu := xu) (xw := xw) (xlc := xlc) (c := c) (s := s) (hF := hF) (xus := xus) (uf := uf282) (x := (nI e_)) (w := (nI 6)) H.size) (cwV 2 hts gL_entries_X7_entry rfl rfl rfl hdX7_entry ⟨Nat.le_of_ble_eq_true rfl, Nat.le_of_ble_eq_true rfl⟩) (preVB hK hN hP hD [4, 5, 6, 7, 8] rfl rfl rfl 4 rfl rfl [.int (nI e_), .int (nI 6)]) rfl rfl hl.1 rfl (lv_room (Nat.le_of_ble_eq_true rfl)) dL_entries_95 ⟨Nat.le_refl _, Nat.le_refl _⟩) hP hD hS hA [4, 5, 6, 7, 8] [0, 1, 2, 3] rfl rfl (by decide) (by decide) (fun r95 u95 H locs hw95 hP hD hS => ?_)
        obtain ⟨uf295, rfl⟩ : ∃ z, z = u95 := ⟨_, rfl⟩
        have hP : va_P dg vwCl [(xh, .inr (0, [.ref xhc, .int (nI st), .int (nI nx)])), (xhc, .inl (tq.1, 7365, .inl hc)), (xt, .inr (6, [.ref xtc, .int (nI tl)])), (xtc, .inl (tq.1, 100, .inl tx)), (x0, .inr (7, [.ref xl, .ref xh, .ref xt, .ref xp, .ref xo, .ref xu, .ref xw])), (xl, .inr (1, [.ref xlc])), (xlc, .inl (tq.1, 1473, .inl c)), (xu, .inr (5, [.ref xus])), (xus, .inl (tq.1, 6, .inl uf295))] H := hP
        have hD : va_D AA [(xh, .inr (0, [.ref xhc, .int (nI st), .int (nI nx)])), (xhc, .inl (tq.1, 7365, .inl hc)), (xt, .inr (6, [.ref xtc, .int (nI tl)])), (xtc, .inl (tq.1, 100, .inl tx)), (x0, .inr (7, [.ref xl, .ref xh, .ref xt, .ref xp, .ref xo, .ref xu, .ref xw])), (xl, .inr (1, [.ref xlc])), (xlc, .inl (tq.1, 1473, .inl c)), (xu, .inr (5, [.ref xus])), (xus, .inl (tq.1, 6, .inl uf295))] := hD
        subst hw95
        refine r_top (show (etR s (nI e_) (nI 6)) = (nI (if fitE s e_ = true then 1 else 0)) from (et_ (by omega) (by omega) (by omega)).trans (bI_nat _)) ?_
        refine r_isub_n hx hb (by split <;> omega) dL_entries_98 ?_
        refine r_iadd_n hx hb dL_entries_99 ?_
        refine lv_istore (lv' := [(4, .int (nI ((cntF (fun k => !fitE s k) e_) + (1 - (if fitE s e_ = true then 1 else 0))))), (2, .int (nI (cntF (fun k => onP s k (hE s)) (e_ + 1)))), (7, .int (me s e_ 0)), (0, .ref x0), (1, .int (nI (nE s))), (3, .int (nI (cntF (leafB s) e_))), (5, .int (nI 1)), (6, .int (nI e_))]) hx hb dL_entries_100 hl (by decide) rfl (fun ls hl => ?_)
        have hl : lv_has ls 10 [(4, .int (nI (cntF (fun k => !fitE s k) (e_ + 1)))), (2, .int (nI (cntF (fun k => onP s k (hE s)) (e_ + 1)))), (7, .int (me s e_ 0)), (0, .ref x0), (1, .int (nI (nE s))), (3, .int (nI (cntF (leafB s) e_))), (5, .int (nI 1)), (6, .int (nI e_))] := by have el : (nI ((cntF (fun k => !fitE s k) e_) + (1 - (if fitE s e_ = true then 1 else 0)))) = (nI (cntF (fun k => !fitE s k) (e_ + 1))) := (cnt_s_n); rw [← el]; exact hl
        refine lv_iconst (v := (nI 1)) hx hb dL_entries_102 (by decide) ?_
        refine lv_istore (lv' := [(8, .int (nI 1)), (4, .int (nI (cntF (fun k => !fitE s k) (e_ + 1)))), (2, .int (nI (cntF (fun k => onP s k (hE s)) (e_ + 1)))), (7, .int (me s e_ 0)), (0, .ref x0), (1, .int (nI (nE s))), (3, .int (nI (cntF (leafB s) e_))), (5, .int (nI 1)), (6, .int (nI e_))]) hx hb dL_entries_103 hl (by decide) rfl (fun ls hl => ?_)
        have hl : lv_has ls 10 [(8, .int (bI (lfp s e_ (e_ + 1)))), (4, .int (nI (cntF (fun k => !fitE s k) (e_ + 1)))), (2, .int (nI (cntF (fun k => onP s k (hE s)) (e_ + 1)))), (7, .int (me s e_ 0)), (0, .ref x0), (1, .int (nI (nE s))), (3, .int (nI (cntF (leafB s) e_))), (5, .int (nI 1)), (6, .int (nI e_))] := by have el : (nI 1) = (bI (lfp s e_ (e_ + 1))) := (by rw [lfp_0]; rfl); rw [← el]; exact hl
        refine lv_iload hx hb dL_entries_105 (lv_at hl 8 rfl) ?_
        refine lv_iconst (v := (nI 1)) hx hb dL_entries_107 (by decide) ?_
        refine r_iadd_n hx hb dL_entries_108 ?_
        refine lv_istore (lv' := [(9, .int (nI (e_ + 1))), (8, .int (bI (lfp s e_ (e_ + 1)))), (4, .int (nI (cntF (fun k => !fitE s k) (e_ + 1)))), (2, .int (nI (cntF (fun k => onP s k (hE s)) (e_ + 1)))), (7, .int (me s e_ 0)), (0, .ref x0), (1, .int (nI (nE s))), (3, .int (nI (cntF (leafB s) e_))), (5, .int (nI 1)), (6, .int (nI e_))]) hx hb dL_entries_109 hl (by decide) rfl (fun ls hl => ?_)
        have loop111 : ∀ (fu : Nat) (k_ : Nat) (g_ : Row) (H : Heap) (locs : List Loc) (ls : Array Slot), (e_ + 1 ≤ k_ ∧ k_ ≤ nE s) → nE s - k_ < fu → va_P dg vwCl [(x0, .inr (7, [.ref xl, .ref xh, .ref xt, .ref xp, .ref xo, .ref xu, .ref xw])), (xl, .inr (1, [.ref xlc])), (xlc, .inl (tq.1, 1473, .inl c)), (xh, .inr (0, [.ref xhc, .int (nI st), .int (nI nx)])), (xhc, .inl (tq.1, 7365, .inl hc)), (xt, .inr (6, [.ref xtc, .int (nI tl)])), (xtc, .inl (tq.1, 100, .inl tx)), (xu, .inr (5, [.ref xus])), (xus, .inl (tq.1, 6, .inl g_))] H → va_D AA [(x0, .inr (7, [.ref xl, .ref xh, .ref xt, .ref xp, .ref xo, .ref xu, .ref xw])), (xl, .inr (1, [.ref xlc])), (xlc, .inl (tq.1, 1473, .inl c)), (xh, .inr (0, [.ref xhc, .int (nI st), .int (nI nx)])), (xhc, .inl (tq.1, 7365, .inl hc)), (xt, .inr (6, [.ref xtc, .int (nI tl)])), (xtc, .inl (tq.1, 100, .inl tx)), (xu, .inr (5, [.ref xus])), (xus, .inl (tq.1, 6, .inl g_))] → va_S AA sS.heap H locs → lv_has ls 10 [(0, .ref x0), (1, .int (nI (nE s))), (2, .int (nI (cntF (fun k => onP s k (hE s)) (e_ + 1)))), (3, .int (nI (cntF (leafB s) e_))), (4, .int (nI (cntF (fun k => !fitE s k) (e_ + 1)))), (5, .int (nI 1)), (6, .int (nI e_)), (7, .int (me s e_ 0)), (8, .int (bI (lfp s e_ k_))), (9, .int (nI k_))] → W pP ln eE (rmm 6 136) sS mM aA bB mT cC H locs 0 0 QQ (F0 mM 111 ls []) := by
          intro fu
          induction fu with
          | zero => intro k_ g_ H locs ls _ hm; exact absurd hm (Nat.not_lt_zero _)
          | succ fu ih111 =>
            intro k_ g_ H locs ls hinv hm hP hD hS hl
            obtain ⟨hj1, hj2⟩ := hinv
            refine lv_iload hx hb dL_entries_111 (lv_at hl 9 rfl) ?_
            refine lv_iload_n hx hb dL_entries_113 rfl (lv_at hl 1 rfl) ?_
            refine r_icmp_ge (tgt := 145) hx hb (nI_tI (by omega)) (nI_tI (by omega)) dL_entries_114 (by decide) (fun c114 => ?_) (fun c114 => ?_)
            · skip
              have hl : lv_has ls 10 [(0, .ref x0), (1, .int (nI (nE s))), (2, .int (nI (cntF (fun k => onP s k (hE s)) (e_ + 1)))), (3, .int (nI (cntF (leafB s) e_))), (4, .int (nI (cntF (fun k => !fitE s k) (e_ + 1)))), (5, .int (nI 1)), (6, .int (nI e_)), (7, .int (me s e_ 0)), (8, .int (bI (leafB s e_))), (9, .int (nI k_))] := by have el : (bI (lfp s e_ k_)) = (bI (leafB s e_)) := (congrArg bI ((congrArg (lfp s e_) (show k_ = nE s by omega)).trans (lfp_leaf s e_))); rw [← el]; exact hl
              refine lv_iload_n hx hb dL_entries_145 rfl (lv_at hl 3 rfl) ?_
              refine lv_iload hx hb dL_entries_146 (lv_at hl 8 rfl) ?_
              refine r_if_eq_b (tgt := 155) hx hb dL_entries_148 (by decide) (fun c148 => ?_) (fun c148 => ?_)
              · skip
                refine lv_iconst (v := (nI 0)) hx hb dL_entries_155 (by decide) ?_
                refine r_iadd_n hx hb dL_entries_156 ?_
                refine lv_istore_n (lv' := [(3, .int (nI ((cntF (leafB s) e_) + 0))), (0, .ref x0), (1, .int (nI (nE s))), (2, .int (nI (cntF (fun k => onP s k (hE s)) (e_ + 1)))), (4, .int (nI (cntF (fun k => !fitE s k) (e_ + 1)))), (5, .int (nI 1)), (6, .int (nI e_)), (7, .int (me s e_ 0)), (8, .int (bI (leafB s e_))), (9, .int (nI k_))]) hx hb dL_entries_157 rfl hl (by decide) rfl (fun ls hl => ?_)
                have hl : lv_has ls 10 [(3, .int (nI (cntF (leafB s) (e_ + 1)))), (0, .ref x0), (1, .int (nI (nE s))), (2, .int (nI (cntF (fun k => onP s k (hE s)) (e_ + 1)))), (4, .int (nI (cntF (fun k => !fitE s k) (e_ + 1)))), (5, .int (nI 1)), (6, .int (nI e_)), (7, .int (me s e_ 0)), (8, .int (bI (leafB s e_))), (9, .int (nI k_))] := by have el : (nI ((cntF (leafB s) e_) + 0)) = (nI (cntF (leafB s) (e_ + 1))) := (cnt_s_f c148); rw [← el]; exact hl
                refine lv_iload hx hb dL_entries_158 (lv_at hl 6 rfl) ?_
                refine r_if_ne (tgt := 173) hx hb (nI_tI (by omega)) dL_entries_160 (by decide) (fun c160 => ?_) (fun c160 => ?_)
                · skip
                  have hpl := hW.pl (e := e_) (by omega) (by omega)
                  have hds := dep_s hW (e := e_) (by omega) (by omega)
                  have hde := dep_le hW e_ (by omega)
                  have hl : lv_has ls 10 [(3, .int (nI (cntF (leafB s) (e_ + 1)))), (0, .ref x0), (1, .int (nI (nE s))), (2, .int (nI (cntF (fun k => onP s k (hE s)) (e_ + 1)))), (4, .int (nI (cntF (fun k => !fitE s k) (e_ + 1)))), (5, .int (nI 1)), (6, .int (nI e_)), (7, .int (nI (pa s e_))), (8, .int (bI (leafB s e_))), (9, .int (nI k_))] := by have el : (me s e_ 0) = (nI (pa s e_)) := (hW.p (by omega) (by omega)); rw [← el]; exact hl
                  refine lv_iload hx hb dL_entries_173 (lv_at hl 7 rfl) ?_
                  refine r_if_lt (tgt := 240) hx hb (nI_tI (by omega)) dL_entries_175 (by decide) (fun c175 => False.elim (by omega)) (fun c175 => ?_)
                  refine lv_iload hx hb dL_entries_178 (lv_at hl 7 rfl) ?_
                  refine lv_iload hx hb dL_entries_180 (lv_at hl 6 rfl) ?_
                  refine r_icmp_ge (tgt := 240) hx hb (nI_tI (by omega)) (nI_tI (by omega)) dL_entries_182 (by decide) (fun c182 => False.elim (by omega)) (fun c182 => ?_)
                  refine lv_aload_n hx hb dL_entries_185 rfl (lv_at hl 1 rfl) ?_
                  refine lv_iload hx hb dL_entries_186 (lv_at hl 6 rfl) ?_
                  refine lv_bipush (v := (nI 9)) hx hb dL_entries_188 (by decide) ?_
                  refine call_w (wr := [(xh, .inr (0, [.ref xhc, .int (nI st), .int (nI nx)])), (xhc, .inl (tq.1, 7365, .inl hc)), (xt, .inr (6, [.ref xtc, .int (nI tl)])), (xtc, .inl (tq.1, 100, .inl tx))]) (va_runV (As := [.int (nI e_), .int (nI 9)]) (rest := []) ⟨hx, hb, hml, hown, hts⟩ (kX7_entry ln dg tq (x0 := x0) (xl := xl) (xh := xh) (xt := xt) (xp := xp) (xo := xo) (xu := xu) (xw := xw) (xlc := xlc) (c := c) (s := s) (hF := hF) (xus := xus) (uf := g_) (x := (nI e_)) (w := (nI 9)) H.size) (cwV 2 hts gL_entries_X7_entry rfl rfl rfl hdX7_entry ⟨Nat.le_of_ble_eq_true rfl, Nat.le_of_ble_eq_true rfl⟩) (preVB hK hN hP hD [0, 1, 2, 7, 8] rfl rfl rfl 0 rfl rfl [.int (nI e_), .int (nI 9)]) rfl rfl hl.1 rfl (lv_room (Nat.le_of_ble_eq_true rfl)) dL_entries_190 ⟨Nat.le_refl _, Nat.le_refl _⟩) hP hD hS hA [0, 1, 2, 7, 8] [3, 4, 5, 6] rfl rfl (by decide) (by decide) (fun r190 u190 H locs hw190 hP hD hS => ?_)
                  obtain ⟨uf2190, rfl⟩ : ∃ z, z = u190 := ⟨_, rfl⟩
                  have hP : va_P dg vwCl [(xh, .inr (0, [.ref xhc, .int (nI st), .int (nI nx)])), (xhc, .inl (tq.1, 7365, .inl hc)), (xt, .inr (6, [.ref xtc, .int (nI tl)])), (xtc, .inl (tq.1, 100, .inl tx)), (x0, .inr (7, [.ref xl, .ref xh, .ref xt, .ref xp, .ref xo, .ref xu, .ref xw])), (xl, .inr (1, [.ref xlc])), (xlc, .inl (tq.1, 1473, .inl c)), (xu, .inr (5, [.ref xus])), (xus, .inl (tq.1, 6, .inl uf2190))] H := hP
                  have hD : va_D AA [(xh, .inr (0, [.ref xhc, .int (nI st), .int (nI nx)])), (xhc, .inl (tq.1, 7365, .inl hc)), (xt, .inr (6, [.ref xtc, .int (nI tl)])), (xtc, .inl (tq.1, 100, .inl tx)), (x0, .inr (7, [.ref xl, .ref xh, .ref xt, .ref xp, .ref xo, .ref xu, .ref xw])), (xl, .inr (1, [.ref xlc])), (xlc, .inl (tq.1, 1473, .inl c)), (xu, .inr (5, [.ref xus])), (xus, .inl (tq.1, 6, .inl uf2190))] := hD
                  subst hw190
                  refine r_top (show (etR s (nI e_) (nI 9)) = (nI (dep s e_)) from (et_ (by omega) (by omega) (by omega))) ?_
                  refine lv_aload_n hx hb dL_entries_193 rfl (lv_at hl 1 rfl) ?_
                  refine lv_iload hx hb dL_entries_194 (lv_at hl 7 rfl) ?_
                  refine lv_bipush (v := (nI 9)) hx hb dL_entries_196 (by decide) ?_
                  refine call_w (wr := [(xh, .inr (0, [.ref xhc, .int (nI st), .int (nI nx)])), (xhc, .inl (tq.1, 7365, .inl hc)), (xt, .inr (6, [.ref xtc, .int (nI tl)])), (xtc, .inl (tq.1, 100, .inl tx))]) (va_runV (As := [.int (nI (pa s e_)), .int (nI 9)]) (rest := [.int (nI (dep s e_))]) ⟨hx, hb, hml, hown, hts⟩ (kX7_entry ln dg tq (x0 := x0) (xl := xl) (xh := xh) (xt := xt) (xp := xp) (xo := xo) (xu := xu) (xw := xw) (xlc := xlc) (c := c) (s := s) (hF := hF) (xus := xus) (uf := uf2190) (x := (nI (pa s e_))) (w := (nI 9)) H.size) (cwV 2 hts gL_entries_X7_entry rfl rfl rfl hdX7_entry ⟨Nat.le_of_ble_eq_true rfl, Nat.le_of_ble_eq_true rfl⟩) (preVB hK hN hP hD [4, 5, 6, 7, 8] rfl rfl rfl 4 rfl rfl [.int (nI (pa s e_)), .int (nI 9)]) rfl rfl hl.1 rfl (lv_room (Nat.le_of_ble_eq_true rfl)) dL_entries_198 ⟨Nat.le_refl _, Nat.le_refl _⟩) hP hD hS hA [4, 5, 6, 7, 8] [0, 1, 2, 3] rfl rfl (by decide) (by decide) (fun r198 u198 H locs hw198 hP hD hS => ?_)
                  obtain ⟨uf2198, rfl⟩ : ∃ z, z = u198 := ⟨_, rfl⟩
                  have hP : va_P dg vwCl [(xh, .inr (0, [.ref xhc, .int (nI st), .int (nI nx)])), (xhc, .inl (tq.1, 7365, .inl hc)), (xt, .inr (6, [.ref xtc, .int (nI tl)])), (xtc, .inl (tq.1, 100, .inl tx)), (x0, .inr (7, [.ref xl, .ref xh, .ref xt, .ref xp, .ref xo, .ref xu, .ref xw])), (xl, .inr (1, [.ref xlc])), (xlc, .inl (tq.1, 1473, .inl c)), (xu, .inr (5, [.ref xus])), (xus, .inl (tq.1, 6, .inl uf2198))] H := hP
                  have hD : va_D AA [(xh, .inr (0, [.ref xhc, .int (nI st), .int (nI nx)])), (xhc, .inl (tq.1, 7365, .inl hc)), (xt, .inr (6, [.ref xtc, .int (nI tl)])), (xtc, .inl (tq.1, 100, .inl tx)), (x0, .inr (7, [.ref xl, .ref xh, .ref xt, .ref xp, .ref xo, .ref xu, .ref xw])), (xl, .inr (1, [.ref xlc])), (xlc, .inl (tq.1, 1473, .inl c)), (xu, .inr (5, [.ref xus])), (xus, .inl (tq.1, 6, .inl uf2198))] := hD
                  subst hw198
                  refine r_top (show (etR s (nI (pa s e_)) (nI 9)) = (nI (dep s (pa s e_))) from (et_ (by omega) (by omega) (by omega))) ?_
                  refine lv_iconst (v := (nI 1)) hx hb dL_entries_201 (by decide) ?_
                  refine r_iadd_n hx hb dL_entries_202 ?_
                  refine r_icmp_ne (tgt := 240) hx hb (nI_tI (by omega)) (nI_tI (by omega)) dL_entries_203 (by decide) (fun c203 => False.elim (by omega)) (fun c203 => ?_)
                  refine lv_aload_n hx hb dL_entries_206 rfl (lv_at hl 1 rfl) ?_
                  refine lv_iload hx hb dL_entries_207 (lv_at hl 6 rfl) ?_
                  refine lv_iconst (v := (nI 5)) hx hb dL_entries_209 (by decide) ?_
                  refine call_w (wr := [(xh, .inr (0, [.ref xhc, .int (nI st), .int (nI nx)])), (xhc, .inl (tq.1, 7365, .inl hc)), (xt, .inr (6, [.ref xtc, .int (nI tl)])), (xtc, .inl (tq.1, 100, .inl tx))]) (va_runV (As := [.int (nI e_), .int (nI 5)]) (rest := []) ⟨hx, hb, hml, hown, hts⟩ (kX7_entry ln dg tq (x0 := x0) (xl := xl) (xh := xh) (xt := xt) (xp := xp) (xo := xo) (xu := xu) (xw := xw) (xlc := xlc) (c := c) (s := s) (hF := hF) (xus := xus) (uf := uf2198) (x := (nI e_)) (w := (nI 5)) H.size) (cwV 2 hts gL_entries_X7_entry rfl rfl rfl hdX7_entry ⟨Nat.le_of_ble_eq_true rfl, Nat.le_of_ble_eq_true rfl⟩) (preVB hK hN hP hD [4, 5, 6, 7, 8] rfl rfl rfl 4 rfl rfl [.int (nI e_), .int (nI 5)]) rfl rfl hl.1 rfl (lv_room (Nat.le_of_ble_eq_true rfl)) dL_entries_210 ⟨Nat.le_refl _, Nat.le_refl _⟩) hP hD hS hA [4, 5, 6, 7, 8] [0, 1, 2, 3] rfl rfl (by decide) (by decide) (fun r210 u210 H locs hw210 hP hD hS => ?_)
                  obtain ⟨uf2210, rfl⟩ : ∃ z, z = u210 := ⟨_, rfl⟩
                  have hP : va_P dg vwCl [(xh, .inr (0, [.ref xhc, .int (nI st), .int (nI nx)])), (xhc, .inl (tq.1, 7365, .inl hc)), (xt, .inr (6, [.ref xtc, .int (nI tl)])), (xtc, .inl (tq.1, 100, .inl tx)), (x0, .inr (7, [.ref xl, .ref xh, .ref xt, .ref xp, .ref xo, .ref xu, .ref xw])), (xl, .inr (1, [.ref xlc])), (xlc, .inl (tq.1, 1473, .inl c)), (xu, .inr (5, [.ref xus])), (xus, .inl (tq.1, 6, .inl uf2210))] H := hP
                  have hD : va_D AA [(xh, .inr (0, [.ref xhc, .int (nI st), .int (nI nx)])), (xhc, .inl (tq.1, 7365, .inl hc)), (xt, .inr (6, [.ref xtc, .int (nI tl)])), (xtc, .inl (tq.1, 100, .inl tx)), (x0, .inr (7, [.ref xl, .ref xh, .ref xt, .ref xp, .ref xo, .ref xu, .ref xw])), (xl, .inr (1, [.ref xlc])), (xlc, .inl (tq.1, 1473, .inl c)), (xu, .inr (5, [.ref xus])), (xus, .inl (tq.1, 6, .inl uf2210))] := hD
                  subst hw210
                  refine r_top (show (etR s (nI e_) (nI 5)) = (me s e_ 5) from (et_ (by omega) (by omega) (by omega))) ?_
                  refine lv_sipush (v := (nI 9973)) hx hb dL_entries_213 (by decide) ?_
                  refine r_icmp_ge (tgt := 240) hx hb rfl (nI_tI (by omega)) dL_entries_216 (by decide) (fun c216 => False.elim (by have q := hX.2.2.1 e_ (by omega); omega)) (fun c216 => ?_)
                  refine lv_aload_n hx hb dL_entries_219 rfl (lv_at hl 1 rfl) ?_
                  refine lv_iload hx hb dL_entries_220 (lv_at hl 6 rfl) ?_
                  refine lv_bipush (v := (nI 10)) hx hb dL_entries_222 (by decide) ?_
                  refine call_w (wr := [(xh, .inr (0, [.ref xhc, .int (nI st), .int (nI nx)])), (xhc, .inl (tq.1, 7365, .inl hc)), (xt, .inr (6, [.ref xtc, .int (nI tl)])), (xtc, .inl (tq.1, 100, .inl tx))]) (va_runV (As := [.int (nI e_), .int (nI 10)]) (rest := []) ⟨hx, hb, hml, hown, hts⟩ (kX7_entry ln dg tq (x0 := x0) (xl := xl) (xh := xh) (xt := xt) (xp := xp) (xo := xo) (xu := xu) (xw := xw) (xlc := xlc) (c := c) (s := s) (hF := hF) (xus := xus) (uf := uf2210) (x := (nI e_)) (w := (nI 10)) H.size) (cwV 2 hts gL_entries_X7_entry rfl rfl rfl hdX7_entry ⟨Nat.le_of_ble_eq_true rfl, Nat.le_of_ble_eq_true rfl⟩) (preVB hK hN hP hD [4, 5, 6, 7, 8] rfl rfl rfl 4 rfl rfl [.int (nI e_), .int (nI 10)]) rfl rfl hl.1 rfl (lv_room (Nat.le_of_ble_eq_true rfl)) dL_entries_224 ⟨Nat.le_refl _, Nat.le_refl _⟩) hP hD hS hA [4, 5, 6, 7, 8] [0, 1, 2, 3] rfl rfl (by decide) (by decide) (fun r224 u224 H locs hw224 hP hD hS => ?_)
                  obtain ⟨uf2224, rfl⟩ : ∃ z, z = u224 := ⟨_, rfl⟩
                  have hP : va_P dg vwCl [(xh, .inr (0, [.ref xhc, .int (nI st), .int (nI nx)])), (xhc, .inl (tq.1, 7365, .inl hc)), (xt, .inr (6, [.ref xtc, .int (nI tl)])), (xtc, .inl (tq.1, 100, .inl tx)), (x0, .inr (7, [.ref xl, .ref xh, .ref xt, .ref xp, .ref xo, .ref xu, .ref xw])), (xl, .inr (1, [.ref xlc])), (xlc, .inl (tq.1, 1473, .inl c)), (xu, .inr (5, [.ref xus])), (xus, .inl (tq.1, 6, .inl uf2224))] H := hP
                  have hD : va_D AA [(xh, .inr (0, [.ref xhc, .int (nI st), .int (nI nx)])), (xhc, .inl (tq.1, 7365, .inl hc)), (xt, .inr (6, [.ref xtc, .int (nI tl)])), (xtc, .inl (tq.1, 100, .inl tx)), (x0, .inr (7, [.ref xl, .ref xh, .ref xt, .ref xp, .ref xo, .ref xu, .ref xw])), (xl, .inr (1, [.ref xlc])), (xlc, .inl (tq.1, 1473, .inl c)), (xu, .inr (5, [.ref xus])), (xus, .inl (tq.1, 6, .inl uf2224))] := hD
                  subst hw224
                  refine r_top (show (etR s (nI e_) (nI 10)) = (iI (sumB s e_)) from (et_ (by omega) (by omega) (by omega)).trans (totI_sum _ _)) ?_
                  refine lv_aload_n hx hb dL_entries_227 rfl (lv_at hl 1 rfl) ?_
                  refine lv_iload hx hb dL_entries_228 (lv_at hl 6 rfl) ?_
                  refine call_w (wr := [(xh, .inr (0, [.ref xhc, .int (nI st), .int (nI nx)])), (xhc, .inl (tq.1, 7365, .inl hc)), (xt, .inr (6, [.ref xtc, .int (nI tl)])), (xtc, .inl (tq.1, 100, .inl tx))]) (va_runS (As := [.ref x0, .int (nI e_)]) (rest := [.int (iI (sumB s e_))]) ⟨hx, hb, hml, hown, hts⟩ (kL_deposited ln dg tq (x0 := x0) (xl := xl) (xh := xh) (xt := xt) (xp := xp) (xo := xo) (xu := xu) (xw := xw) (xlc := xlc) (c := c) (s := s) (hF := hF) (xus := xus) (uf := uf2224) (e := e_) (he := (by omega)) H.size) (va_cwS 2 hts gL_entries_L_deposited rfl rfl rfl hdL_deposited.2 ⟨Nat.le_of_ble_eq_true rfl, Nat.le_of_ble_eq_true rfl⟩) (preSB hK hN hP hD [4, 5, 6, 7, 8] rfl rfl rfl [.ref x0, .int (nI e_)]) rfl rfl hl.1 rfl (lv_room (Nat.le_of_ble_eq_true rfl)) dL_entries_230 ⟨Nat.le_refl _, Nat.le_refl _⟩) hP hD hS hA [4, 5, 6, 7, 8] [0, 1, 2, 3] rfl rfl (by decide) (by decide) (fun r230 u230 H locs hw230 hP hD hS => ?_)
                  obtain ⟨uf2230, rfl⟩ : ∃ z, z = u230 := ⟨_, rfl⟩
                  have hP : va_P dg vwCl [(xh, .inr (0, [.ref xhc, .int (nI st), .int (nI nx)])), (xhc, .inl (tq.1, 7365, .inl hc)), (xt, .inr (6, [.ref xtc, .int (nI tl)])), (xtc, .inl (tq.1, 100, .inl tx)), (x0, .inr (7, [.ref xl, .ref xh, .ref xt, .ref xp, .ref xo, .ref xu, .ref xw])), (xl, .inr (1, [.ref xlc])), (xlc, .inl (tq.1, 1473, .inl c)), (xu, .inr (5, [.ref xus])), (xus, .inl (tq.1, 6, .inl uf2230))] H := hP
                  have hD : va_D AA [(xh, .inr (0, [.ref xhc, .int (nI st), .int (nI nx)])), (xhc, .inl (tq.1, 7365, .inl hc)), (xt, .inr (6, [.ref xtc, .int (nI tl)])), (xtc, .inl (tq.1, 100, .inl tx)), (x0, .inr (7, [.ref xl, .ref xh, .ref xt, .ref xp, .ref xo, .ref xu, .ref xw])), (xl, .inr (1, [.ref xlc])), (xlc, .inl (tq.1, 1473, .inl c)), (xu, .inr (5, [.ref xus])), (xus, .inl (tq.1, 6, .inl uf2230))] := hD
                  subst hw230
                  refine r_top (show (iI (sumB s e_)) = (iI (sumB s e_)) from rfl) ?_
                  refine lv_icmp_ne (tgt := 240) hx hb dL_entries_233 (by decide) (fun c233 => False.elim (by exact c233 rfl)) (fun c233 => ?_)
                  refine lv_iconst (v := (nI 1)) hx hb dL_entries_236 (by decide) ?_
                  refine lv_goto (tgt := 241) hx hb dL_entries_237 (by decide) ?_
                  refine lv_istore (lv' := [(5, .int (nI 1)), (3, .int (nI (cntF (leafB s) (e_ + 1)))), (0, .ref x0), (1, .int (nI (nE s))), (2, .int (nI (cntF (fun k => onP s k (hE s)) (e_ + 1)))), (4, .int (nI (cntF (fun k => !fitE s k) (e_ + 1)))), (6, .int (nI e_)), (7, .int (nI (pa s e_))), (8, .int (bI (leafB s e_))), (9, .int (nI k_))]) hx hb dL_entries_241 hl (by decide) rfl (fun ls hl => ?_)
                  refine lv_iconst (v := (nI 0)) hx hb dL_entries_243 (by decide) ?_
                  refine lv_istore (lv' := [(9, .int (nI 0)), (5, .int (nI 1)), (3, .int (nI (cntF (leafB s) (e_ + 1)))), (0, .ref x0), (1, .int (nI (nE s))), (2, .int (nI (cntF (fun k => onP s k (hE s)) (e_ + 1)))), (4, .int (nI (cntF (fun k => !fitE s k) (e_ + 1)))), (6, .int (nI e_)), (7, .int (nI (pa s e_))), (8, .int (bI (leafB s e_)))]) hx hb dL_entries_244 hl (by decide) rfl (fun ls hl => ?_)
                  have loop246 : ∀ (fu : Nat) (a_ : Nat) (h_ : Row) (H : Heap) (locs : List Loc) (ls : Array Slot), (a_ ≤ 6) → 6 - a_ < fu → va_P dg vwCl [(x0, .inr (7, [.ref xl, .ref xh, .ref xt, .ref xp, .ref xo, .ref xu, .ref xw])), (xl, .inr (1, [.ref xlc])), (xlc, .inl (tq.1, 1473, .inl c)), (xh, .inr (0, [.ref xhc, .int (nI st), .int (nI nx)])), (xhc, .inl (tq.1, 7365, .inl hc)), (xt, .inr (6, [.ref xtc, .int (nI tl)])), (xtc, .inl (tq.1, 100, .inl tx)), (xu, .inr (5, [.ref xus])), (xus, .inl (tq.1, 6, .inl h_))] H → va_D AA [(x0, .inr (7, [.ref xl, .ref xh, .ref xt, .ref xp, .ref xo, .ref xu, .ref xw])), (xl, .inr (1, [.ref xlc])), (xlc, .inl (tq.1, 1473, .inl c)), (xh, .inr (0, [.ref xhc, .int (nI st), .int (nI nx)])), (xhc, .inl (tq.1, 7365, .inl hc)), (xt, .inr (6, [.ref xtc, .int (nI tl)])), (xtc, .inl (tq.1, 100, .inl tx)), (xu, .inr (5, [.ref xus])), (xus, .inl (tq.1, 6, .inl h_))] → va_S AA sS.heap H locs → lv_has ls 10 [(0, .ref x0), (1, .int (nI (nE s))), (2, .int (nI (cntF (fun k => onP s k (hE s)) (e_ + 1)))), (3, .int (nI (cntF (leafB s) (e_ + 1)))), (4, .int (nI (cntF (fun k => !fitE s k) (e_ + 1)))), (5, .int (nI 1)), (6, .int (nI e_)), (9, .int (nI a_))] → W pP ln eE (rmm 6 136) sS mM aA bB mT cC H locs 0 0 QQ (F0 mM 246 ls []) := by
                    intro fu
                    induction fu with
                    | zero => intro a_ h_ H locs ls _ hm; exact absurd hm (Nat.not_lt_zero _)
                    | succ fu ih246 =>
                      intro a_ h_ H locs ls hinv hm hP hD hS hl
                      refine lv_iload hx hb dL_entries_246 (lv_at hl 7 rfl) ?_
                      refine lv_bipush (v := (nI 6)) hx hb dL_entries_248 (by decide) ?_
                      refine r_icmp_ge (tgt := 282) hx hb (nI_tI (by omega)) (nI_tI (by omega)) dL_entries_250 (by decide) (fun c250 => ?_) (fun c250 => ?_)
                      · skip
                        refine lv_iinc (v := (nI (e_ + 1))) (lv' := [(6, .int (nI (e_ + 1))), (0, .ref x0), (1, .int (nI (nE s))), (2, .int (nI (cntF (fun k => onP s k (hE s)) (e_ + 1)))), (3, .int (nI (cntF (leafB s) (e_ + 1)))), (4, .int (nI (cntF (fun k => !fitE s k) (e_ + 1)))), (5, .int (nI 1)), (9, .int (nI a_))]) hx hb dL_entries_282 hl (k := 6) rfl (nI_add _ _) (by decide) rfl (fun ls hl => ?_)
                        refine lv_goto (tgt := 56) hx hb dL_entries_285 (by decide) ?_
                        exact ih56 (e_ + 1) h_ H locs ls (by omega) (by omega) (hP.sub [0, 1, 2, 3, 4, 5, 6, 7, 8] rfl) (hD.sub [0, 1, 2, 3, 4, 5, 6, 7, 8] (by decide) rfl) hS (lv_sub hl [1, 2, 3, 4, 5, 6, 0] rfl)
                      · skip
                        refine lv_iload hx hb dL_entries_253 (lv_at hl 5 rfl) ?_
                        refine r_if_eq (tgt := 282) hx hb (nI_tI (by omega)) dL_entries_255 (by decide) (fun c255 => False.elim (by omega)) (fun c255 => ?_)
                        have hbd := bal_bd hW (e := e_) (by omega) a_ (by omega)
                        refine lv_aload_n hx hb dL_entries_258 rfl (lv_at hl 0 rfl) ?_
                        refine lv_iload hx hb dL_entries_259 (lv_at hl 7 rfl) ?_
                        refine lv_iload hx hb dL_entries_261 (lv_at hl 6 rfl) ?_
                        refine call_w (wr := [(xh, .inr (0, [.ref xhc, .int (nI st), .int (nI nx)])), (xhc, .inl (tq.1, 7365, .inl hc)), (xt, .inr (6, [.ref xtc, .int (nI tl)])), (xtc, .inl (tq.1, 100, .inl tx))]) (va_runV (As := [.int (nI a_), .int (nI e_)]) (rest := []) ⟨hx, hb, hml, hown, hts⟩ (kX7_balance ln dg tq (x0 := x0) (xl := xl) (xh := xh) (xt := xt) (xp := xp) (xo := xo) (xu := xu) (xw := xw) (xlc := xlc) (c := c) (s := s) (hF := hF) (xus := xus) (uf := h_) (a := (nI a_)) (x := (nI e_)) H.size) (cwV 2 hts gL_entries_X7_balance rfl rfl rfl hdX7_balance ⟨Nat.le_of_ble_eq_true rfl, Nat.le_of_ble_eq_true rfl⟩) (preVB hK hN hP hD [0, 1, 2, 7, 8] rfl rfl rfl 0 rfl rfl [.int (nI a_), .int (nI e_)]) rfl rfl hl.1 rfl (lv_room (Nat.le_of_ble_eq_true rfl)) dL_entries_263 ⟨Nat.le_refl _, Nat.le_refl _⟩) hP hD hS hA [0, 1, 2, 7, 8] [3, 4, 5, 6] rfl rfl (by decide) (by decide) (fun r263 u263 H locs hw263 hP hD hS => ?_)
                        obtain ⟨uf2263, rfl⟩ : ∃ z, z = u263 := ⟨_, rfl⟩
                        have hP : va_P dg vwCl [(xh, .inr (0, [.ref xhc, .int (nI st), .int (nI nx)])), (xhc, .inl (tq.1, 7365, .inl hc)), (xt, .inr (6, [.ref xtc, .int (nI tl)])), (xtc, .inl (tq.1, 100, .inl tx)), (x0, .inr (7, [.ref xl, .ref xh, .ref xt, .ref xp, .ref xo, .ref xu, .ref xw])), (xl, .inr (1, [.ref xlc])), (xlc, .inl (tq.1, 1473, .inl c)), (xu, .inr (5, [.ref xus])), (xus, .inl (tq.1, 6, .inl uf2263))] H := hP
                        have hD : va_D AA [(xh, .inr (0, [.ref xhc, .int (nI st), .int (nI nx)])), (xhc, .inl (tq.1, 7365, .inl hc)), (xt, .inr (6, [.ref xtc, .int (nI tl)])), (xtc, .inl (tq.1, 100, .inl tx)), (x0, .inr (7, [.ref xl, .ref xh, .ref xt, .ref xp, .ref xo, .ref xu, .ref xw])), (xl, .inr (1, [.ref xlc])), (xlc, .inl (tq.1, 1473, .inl c)), (xu, .inr (5, [.ref xus])), (xus, .inl (tq.1, 6, .inl uf2263))] := hD
                        subst hw263
                        refine r_top (show (baR s (nI a_) (nI e_)) = (iI (bal s e_ a_)) from ba_ (by omega) (by omega) (by omega)) ?_
                        refine r_if_lt (tgt := 273) hx hb (iI_toInt (by omega) (by omega)) dL_entries_266 (by decide) (fun c266 => False.elim (by omega)) (fun c266 => ?_)
                        refine lv_iconst (v := (nI 1)) hx hb dL_entries_269 (by decide) ?_
                        refine lv_goto (tgt := 274) hx hb dL_entries_270 (by decide) ?_
                        refine lv_istore (lv' := [(5, .int (nI 1)), (0, .ref x0), (1, .int (nI (nE s))), (2, .int (nI (cntF (fun k => onP s k (hE s)) (e_ + 1)))), (3, .int (nI (cntF (leafB s) (e_ + 1)))), (4, .int (nI (cntF (fun k => !fitE s k) (e_ + 1)))), (6, .int (nI e_)), (9, .int (nI a_))]) hx hb dL_entries_274 hl (by decide) rfl (fun ls hl => ?_)
                        refine lv_iinc (v := (nI (a_ + 1))) (lv' := [(9, .int (nI (a_ + 1))), (5, .int (nI 1)), (0, .ref x0), (1, .int (nI (nE s))), (2, .int (nI (cntF (fun k => onP s k (hE s)) (e_ + 1)))), (3, .int (nI (cntF (leafB s) (e_ + 1)))), (4, .int (nI (cntF (fun k => !fitE s k) (e_ + 1)))), (6, .int (nI e_))]) hx hb dL_entries_276 hl (k := 7) rfl (nI_add _ _) (by decide) rfl (fun ls hl => ?_)
                        refine lv_goto (tgt := 246) hx hb dL_entries_279 (by decide) ?_
                        exact ih246 (a_ + 1) uf2263 H locs ls (by omega) (by omega) (hP.sub [4, 5, 6, 0, 1, 2, 3, 7, 8] rfl) (hD.sub [4, 5, 6, 0, 1, 2, 3, 7, 8] (by decide) rfl) hS (lv_sub hl [2, 3, 4, 5, 6, 1, 7, 0] rfl)
                  exact loop246 _ 0 uf2230 H locs ls (by omega) (Nat.lt_succ_self _) (hP.sub [4, 5, 6, 0, 1, 2, 3, 7, 8] rfl) (hD.sub [4, 5, 6, 0, 1, 2, 3, 7, 8] (by decide) rfl) hS (lv_sub hl [3, 4, 5, 2, 6, 1, 7, 0] rfl)
                · skip
                  refine lv_iload hx hb dL_entries_163 (lv_at hl 7 rfl) ?_
                  refine lv_ldc hx hb hown k19 dL_entries_165 ?_
                  refine r_icmp_ne (tgt := 240) hx hb rfl (by decide : ((-100009) : Int32).toInt = (-100009)) dL_entries_167 (by decide) (fun c167 => False.elim (by exact c167 (by rw [show e_ = 0 by omega, hX.1]; decide))) (fun c167 => ?_)
                  refine lv_goto (tgt := 206) hx hb dL_entries_170 (by decide) ?_
                  refine lv_aload_n hx hb dL_entries_206 rfl (lv_at hl 1 rfl) ?_
                  refine lv_iload hx hb dL_entries_207 (lv_at hl 6 rfl) ?_
                  refine lv_iconst (v := (nI 5)) hx hb dL_entries_209 (by decide) ?_
                  refine call_w (wr := [(xh, .inr (0, [.ref xhc, .int (nI st), .int (nI nx)])), (xhc, .inl (tq.1, 7365, .inl hc)), (xt, .inr (6, [.ref xtc, .int (nI tl)])), (xtc, .inl (tq.1, 100, .inl tx))]) (va_runV (As := [.int (nI e_), .int (nI 5)]) (rest := []) ⟨hx, hb, hml, hown, hts⟩ (kX7_entry ln dg tq (x0 := x0) (xl := xl) (xh := xh) (xt := xt) (xp := xp) (xo := xo) (xu := xu) (xw := xw) (xlc := xlc) (c := c) (s := s) (hF := hF) (xus := xus) (uf := g_) (x := (nI e_)) (w := (nI 5)) H.size) (cwV 2 hts gL_entries_X7_entry rfl rfl rfl hdX7_entry ⟨Nat.le_of_ble_eq_true rfl, Nat.le_of_ble_eq_true rfl⟩) (preVB hK hN hP hD [0, 1, 2, 7, 8] rfl rfl rfl 0 rfl rfl [.int (nI e_), .int (nI 5)]) rfl rfl hl.1 rfl (lv_room (Nat.le_of_ble_eq_true rfl)) dL_entries_210 ⟨Nat.le_refl _, Nat.le_refl _⟩) hP hD hS hA [0, 1, 2, 7, 8] [3, 4, 5, 6] rfl rfl (by decide) (by decide) (fun r210 u210 H locs hw210 hP hD hS => ?_)
                  obtain ⟨uf2210, rfl⟩ : ∃ z, z = u210 := ⟨_, rfl⟩
                  have hP : va_P dg vwCl [(xh, .inr (0, [.ref xhc, .int (nI st), .int (nI nx)])), (xhc, .inl (tq.1, 7365, .inl hc)), (xt, .inr (6, [.ref xtc, .int (nI tl)])), (xtc, .inl (tq.1, 100, .inl tx)), (x0, .inr (7, [.ref xl, .ref xh, .ref xt, .ref xp, .ref xo, .ref xu, .ref xw])), (xl, .inr (1, [.ref xlc])), (xlc, .inl (tq.1, 1473, .inl c)), (xu, .inr (5, [.ref xus])), (xus, .inl (tq.1, 6, .inl uf2210))] H := hP
                  have hD : va_D AA [(xh, .inr (0, [.ref xhc, .int (nI st), .int (nI nx)])), (xhc, .inl (tq.1, 7365, .inl hc)), (xt, .inr (6, [.ref xtc, .int (nI tl)])), (xtc, .inl (tq.1, 100, .inl tx)), (x0, .inr (7, [.ref xl, .ref xh, .ref xt, .ref xp, .ref xo, .ref xu, .ref xw])), (xl, .inr (1, [.ref xlc])), (xlc, .inl (tq.1, 1473, .inl c)), (xu, .inr (5, [.ref xus])), (xus, .inl (tq.1, 6, .inl uf2210))] := hD
                  subst hw210
                  refine r_top (show (etR s (nI e_) (nI 5)) = (me s e_ 5) from (et_ (by omega) (by omega) (by omega))) ?_
                  refine lv_sipush (v := (nI 9973)) hx hb dL_entries_213 (by decide) ?_
                  refine r_icmp_ge (tgt := 240) hx hb rfl (nI_tI (by omega)) dL_entries_216 (by decide) (fun c216 => False.elim (by have q := hX.2.2.1 e_ (by omega); omega)) (fun c216 => ?_)
                  refine lv_aload_n hx hb dL_entries_219 rfl (lv_at hl 1 rfl) ?_
                  refine lv_iload hx hb dL_entries_220 (lv_at hl 6 rfl) ?_
                  refine lv_bipush (v := (nI 10)) hx hb dL_entries_222 (by decide) ?_
                  refine call_w (wr := [(xh, .inr (0, [.ref xhc, .int (nI st), .int (nI nx)])), (xhc, .inl (tq.1, 7365, .inl hc)), (xt, .inr (6, [.ref xtc, .int (nI tl)])), (xtc, .inl (tq.1, 100, .inl tx))]) (va_runV (As := [.int (nI e_), .int (nI 10)]) (rest := []) ⟨hx, hb, hml, hown, hts⟩ (kX7_entry ln dg tq (x0 := x0) (xl := xl) (xh := xh) (xt := xt) (xp := xp) (xo := xo) (xu := xu) (xw := xw) (xlc := xlc) (c := c) (s := s) (hF := hF) (xus := xus) (uf := uf2210) (x := (nI e_)) (w := (nI 10)) H.size) (cwV 2 hts gL_entries_X7_entry rfl rfl rfl hdX7_entry ⟨Nat.le_of_ble_eq_true rfl, Nat.le_of_ble_eq_true rfl⟩) (preVB hK hN hP hD [4, 5, 6, 7, 8] rfl rfl rfl 4 rfl rfl [.int (nI e_), .int (nI 10)]) rfl rfl hl.1 rfl (lv_room (Nat.le_of_ble_eq_true rfl)) dL_entries_224 ⟨Nat.le_refl _, Nat.le_refl _⟩) hP hD hS hA [4, 5, 6, 7, 8] [0, 1, 2, 3] rfl rfl (by decide) (by decide) (fun r224 u224 H locs hw224 hP hD hS => ?_)
                  obtain ⟨uf2224, rfl⟩ : ∃ z, z = u224 := ⟨_, rfl⟩
                  have hP : va_P dg vwCl [(xh, .inr (0, [.ref xhc, .int (nI st), .int (nI nx)])), (xhc, .inl (tq.1, 7365, .inl hc)), (xt, .inr (6, [.ref xtc, .int (nI tl)])), (xtc, .inl (tq.1, 100, .inl tx)), (x0, .inr (7, [.ref xl, .ref xh, .ref xt, .ref xp, .ref xo, .ref xu, .ref xw])), (xl, .inr (1, [.ref xlc])), (xlc, .inl (tq.1, 1473, .inl c)), (xu, .inr (5, [.ref xus])), (xus, .inl (tq.1, 6, .inl uf2224))] H := hP
                  have hD : va_D AA [(xh, .inr (0, [.ref xhc, .int (nI st), .int (nI nx)])), (xhc, .inl (tq.1, 7365, .inl hc)), (xt, .inr (6, [.ref xtc, .int (nI tl)])), (xtc, .inl (tq.1, 100, .inl tx)), (x0, .inr (7, [.ref xl, .ref xh, .ref xt, .ref xp, .ref xo, .ref xu, .ref xw])), (xl, .inr (1, [.ref xlc])), (xlc, .inl (tq.1, 1473, .inl c)), (xu, .inr (5, [.ref xus])), (xus, .inl (tq.1, 6, .inl uf2224))] := hD
                  subst hw224
                  refine r_top (show (etR s (nI e_) (nI 10)) = (iI (sumB s e_)) from (et_ (by omega) (by omega) (by omega)).trans (totI_sum _ _)) ?_
                  refine lv_aload_n hx hb dL_entries_227 rfl (lv_at hl 1 rfl) ?_
                  refine lv_iload hx hb dL_entries_228 (lv_at hl 6 rfl) ?_
                  refine call_w (wr := [(xh, .inr (0, [.ref xhc, .int (nI st), .int (nI nx)])), (xhc, .inl (tq.1, 7365, .inl hc)), (xt, .inr (6, [.ref xtc, .int (nI tl)])), (xtc, .inl (tq.1, 100, .inl tx))]) (va_runS (As := [.ref x0, .int (nI e_)]) (rest := [.int (iI (sumB s e_))]) ⟨hx, hb, hml, hown, hts⟩ (kL_deposited ln dg tq (x0 := x0) (xl := xl) (xh := xh) (xt := xt) (xp := xp) (xo := xo) (xu := xu) (xw := xw) (xlc := xlc) (c := c) (s := s) (hF := hF) (xus := xus) (uf := uf2224) (e := e_) (he := (by omega)) H.size) (va_cwS 2 hts gL_entries_L_deposited rfl rfl rfl hdL_deposited.2 ⟨Nat.le_of_ble_eq_true rfl, Nat.le_of_ble_eq_true rfl⟩) (preSB hK hN hP hD [4, 5, 6, 7, 8] rfl rfl rfl [.ref x0, .int (nI e_)]) rfl rfl hl.1 rfl (lv_room (Nat.le_of_ble_eq_true rfl)) dL_entries_230 ⟨Nat.le_refl _, Nat.le_refl _⟩) hP hD hS hA [4, 5, 6, 7, 8] [0, 1, 2, 3] rfl rfl (by decide) (by decide) (fun r230 u230 H locs hw230 hP hD hS => ?_)
                  obtain ⟨uf2230, rfl⟩ : ∃ z, z = u230 := ⟨_, rfl⟩
                  have hP : va_P dg vwCl [(xh, .inr (0, [.ref xhc, .int (nI st), .int (nI nx)])), (xhc, .inl (tq.1, 7365, .inl hc)), (xt, .inr (6, [.ref xtc, .int (nI tl)])), (xtc, .inl (tq.1, 100, .inl tx)), (x0, .inr (7, [.ref xl, .ref xh, .ref xt, .ref xp, .ref xo, .ref xu, .ref xw])), (xl, .inr (1, [.ref xlc])), (xlc, .inl (tq.1, 1473, .inl c)), (xu, .inr (5, [.ref xus])), (xus, .inl (tq.1, 6, .inl uf2230))] H := hP
                  have hD : va_D AA [(xh, .inr (0, [.ref xhc, .int (nI st), .int (nI nx)])), (xhc, .inl (tq.1, 7365, .inl hc)), (xt, .inr (6, [.ref xtc, .int (nI tl)])), (xtc, .inl (tq.1, 100, .inl tx)), (x0, .inr (7, [.ref xl, .ref xh, .ref xt, .ref xp, .ref xo, .ref xu, .ref xw])), (xl, .inr (1, [.ref xlc])), (xlc, .inl (tq.1, 1473, .inl c)), (xu, .inr (5, [.ref xus])), (xus, .inl (tq.1, 6, .inl uf2230))] := hD
                  subst hw230
                  refine r_top (show (iI (sumB s e_)) = (iI (sumB s e_)) from rfl) ?_
                  refine lv_icmp_ne (tgt := 240) hx hb dL_entries_233 (by decide) (fun c233 => False.elim (by exact c233 rfl)) (fun c233 => ?_)
                  refine lv_iconst (v := (nI 1)) hx hb dL_entries_236 (by decide) ?_
                  refine lv_goto (tgt := 241) hx hb dL_entries_237 (by decide) ?_
                  refine lv_istore (lv' := [(5, .int (nI 1)), (3, .int (nI (cntF (leafB s) (e_ + 1)))), (0, .ref x0), (1, .int (nI (nE s))), (2, .int (nI (cntF (fun k => onP s k (hE s)) (e_ + 1)))), (4, .int (nI (cntF (fun k => !fitE s k) (e_ + 1)))), (6, .int (nI e_)), (7, .int (me s e_ 0)), (8, .int (bI (leafB s e_))), (9, .int (nI k_))]) hx hb dL_entries_241 hl (by decide) rfl (fun ls hl => ?_)
                  refine lv_iconst (v := (nI 0)) hx hb dL_entries_243 (by decide) ?_
                  refine lv_istore (lv' := [(9, .int (nI 0)), (5, .int (nI 1)), (3, .int (nI (cntF (leafB s) (e_ + 1)))), (0, .ref x0), (1, .int (nI (nE s))), (2, .int (nI (cntF (fun k => onP s k (hE s)) (e_ + 1)))), (4, .int (nI (cntF (fun k => !fitE s k) (e_ + 1)))), (6, .int (nI e_)), (7, .int (me s e_ 0)), (8, .int (bI (leafB s e_)))]) hx hb dL_entries_244 hl (by decide) rfl (fun ls hl => ?_)
                  have loop246 : ∀ (fu : Nat) (a_ : Nat) (h_ : Row) (H : Heap) (locs : List Loc) (ls : Array Slot), (a_ ≤ 6) → 6 - a_ < fu → va_P dg vwCl [(x0, .inr (7, [.ref xl, .ref xh, .ref xt, .ref xp, .ref xo, .ref xu, .ref xw])), (xl, .inr (1, [.ref xlc])), (xlc, .inl (tq.1, 1473, .inl c)), (xh, .inr (0, [.ref xhc, .int (nI st), .int (nI nx)])), (xhc, .inl (tq.1, 7365, .inl hc)), (xt, .inr (6, [.ref xtc, .int (nI tl)])), (xtc, .inl (tq.1, 100, .inl tx)), (xu, .inr (5, [.ref xus])), (xus, .inl (tq.1, 6, .inl h_))] H → va_D AA [(x0, .inr (7, [.ref xl, .ref xh, .ref xt, .ref xp, .ref xo, .ref xu, .ref xw])), (xl, .inr (1, [.ref xlc])), (xlc, .inl (tq.1, 1473, .inl c)), (xh, .inr (0, [.ref xhc, .int (nI st), .int (nI nx)])), (xhc, .inl (tq.1, 7365, .inl hc)), (xt, .inr (6, [.ref xtc, .int (nI tl)])), (xtc, .inl (tq.1, 100, .inl tx)), (xu, .inr (5, [.ref xus])), (xus, .inl (tq.1, 6, .inl h_))] → va_S AA sS.heap H locs → lv_has ls 10 [(0, .ref x0), (1, .int (nI (nE s))), (2, .int (nI (cntF (fun k => onP s k (hE s)) (e_ + 1)))), (3, .int (nI (cntF (leafB s) (e_ + 1)))), (4, .int (nI (cntF (fun k => !fitE s k) (e_ + 1)))), (5, .int (nI 1)), (6, .int (nI e_)), (9, .int (nI a_))] → W pP ln eE (rmm 6 136) sS mM aA bB mT cC H locs 0 0 QQ (F0 mM 246 ls []) := by
                    intro fu
                    induction fu with
                    | zero => intro a_ h_ H locs ls _ hm; exact absurd hm (Nat.not_lt_zero _)
                    | succ fu ih246 =>
                      intro a_ h_ H locs ls hinv hm hP hD hS hl
                      refine lv_iload hx hb dL_entries_246 (lv_at hl 7 rfl) ?_
                      refine lv_bipush (v := (nI 6)) hx hb dL_entries_248 (by decide) ?_
                      refine r_icmp_ge (tgt := 282) hx hb (nI_tI (by omega)) (nI_tI (by omega)) dL_entries_250 (by decide) (fun c250 => ?_) (fun c250 => ?_)
                      · skip
                        refine lv_iinc (v := (nI (e_ + 1))) (lv' := [(6, .int (nI (e_ + 1))), (0, .ref x0), (1, .int (nI (nE s))), (2, .int (nI (cntF (fun k => onP s k (hE s)) (e_ + 1)))), (3, .int (nI (cntF (leafB s) (e_ + 1)))), (4, .int (nI (cntF (fun k => !fitE s k) (e_ + 1)))), (5, .int (nI 1)), (9, .int (nI a_))]) hx hb dL_entries_282 hl (k := 6) rfl (nI_add _ _) (by decide) rfl (fun ls hl => ?_)
                        refine lv_goto (tgt := 56) hx hb dL_entries_285 (by decide) ?_
                        exact ih56 (e_ + 1) h_ H locs ls (by omega) (by omega) (hP.sub [0, 1, 2, 3, 4, 5, 6, 7, 8] rfl) (hD.sub [0, 1, 2, 3, 4, 5, 6, 7, 8] (by decide) rfl) hS (lv_sub hl [1, 2, 3, 4, 5, 6, 0] rfl)
                      · skip
                        refine lv_iload hx hb dL_entries_253 (lv_at hl 5 rfl) ?_
                        refine r_if_eq (tgt := 282) hx hb (nI_tI (by omega)) dL_entries_255 (by decide) (fun c255 => False.elim (by omega)) (fun c255 => ?_)
                        have hbd := bal_bd hW (e := e_) (by omega) a_ (by omega)
                        refine lv_aload_n hx hb dL_entries_258 rfl (lv_at hl 0 rfl) ?_
                        refine lv_iload hx hb dL_entries_259 (lv_at hl 7 rfl) ?_
                        refine lv_iload hx hb dL_entries_261 (lv_at hl 6 rfl) ?_
                        refine call_w (wr := [(xh, .inr (0, [.ref xhc, .int (nI st), .int (nI nx)])), (xhc, .inl (tq.1, 7365, .inl hc)), (xt, .inr (6, [.ref xtc, .int (nI tl)])), (xtc, .inl (tq.1, 100, .inl tx))]) (va_runV (As := [.int (nI a_), .int (nI e_)]) (rest := []) ⟨hx, hb, hml, hown, hts⟩ (kX7_balance ln dg tq (x0 := x0) (xl := xl) (xh := xh) (xt := xt) (xp := xp) (xo := xo) (xu := xu) (xw := xw) (xlc := xlc) (c := c) (s := s) (hF := hF) (xus := xus) (uf := h_) (a := (nI a_)) (x := (nI e_)) H.size) (cwV 2 hts gL_entries_X7_balance rfl rfl rfl hdX7_balance ⟨Nat.le_of_ble_eq_true rfl, Nat.le_of_ble_eq_true rfl⟩) (preVB hK hN hP hD [0, 1, 2, 7, 8] rfl rfl rfl 0 rfl rfl [.int (nI a_), .int (nI e_)]) rfl rfl hl.1 rfl (lv_room (Nat.le_of_ble_eq_true rfl)) dL_entries_263 ⟨Nat.le_refl _, Nat.le_refl _⟩) hP hD hS hA [0, 1, 2, 7, 8] [3, 4, 5, 6] rfl rfl (by decide) (by decide) (fun r263 u263 H locs hw263 hP hD hS => ?_)
                        obtain ⟨uf2263, rfl⟩ : ∃ z, z = u263 := ⟨_, rfl⟩
                        have hP : va_P dg vwCl [(xh, .inr (0, [.ref xhc, .int (nI st), .int (nI nx)])), (xhc, .inl (tq.1, 7365, .inl hc)), (xt, .inr (6, [.ref xtc, .int (nI tl)])), (xtc, .inl (tq.1, 100, .inl tx)), (x0, .inr (7, [.ref xl, .ref xh, .ref xt, .ref xp, .ref xo, .ref xu, .ref xw])), (xl, .inr (1, [.ref xlc])), (xlc, .inl (tq.1, 1473, .inl c)), (xu, .inr (5, [.ref xus])), (xus, .inl (tq.1, 6, .inl uf2263))] H := hP
                        have hD : va_D AA [(xh, .inr (0, [.ref xhc, .int (nI st), .int (nI nx)])), (xhc, .inl (tq.1, 7365, .inl hc)), (xt, .inr (6, [.ref xtc, .int (nI tl)])), (xtc, .inl (tq.1, 100, .inl tx)), (x0, .inr (7, [.ref xl, .ref xh, .ref xt, .ref xp, .ref xo, .ref xu, .ref xw])), (xl, .inr (1, [.ref xlc])), (xlc, .inl (tq.1, 1473, .inl c)), (xu, .inr (5, [.ref xus])), (xus, .inl (tq.1, 6, .inl uf2263))] := hD
                        subst hw263
                        refine r_top (show (baR s (nI a_) (nI e_)) = (iI (bal s e_ a_)) from ba_ (by omega) (by omega) (by omega)) ?_
                        refine r_if_lt (tgt := 273) hx hb (iI_toInt (by omega) (by omega)) dL_entries_266 (by decide) (fun c266 => False.elim (by omega)) (fun c266 => ?_)
                        refine lv_iconst (v := (nI 1)) hx hb dL_entries_269 (by decide) ?_
                        refine lv_goto (tgt := 274) hx hb dL_entries_270 (by decide) ?_
                        refine lv_istore (lv' := [(5, .int (nI 1)), (0, .ref x0), (1, .int (nI (nE s))), (2, .int (nI (cntF (fun k => onP s k (hE s)) (e_ + 1)))), (3, .int (nI (cntF (leafB s) (e_ + 1)))), (4, .int (nI (cntF (fun k => !fitE s k) (e_ + 1)))), (6, .int (nI e_)), (9, .int (nI a_))]) hx hb dL_entries_274 hl (by decide) rfl (fun ls hl => ?_)
                        refine lv_iinc (v := (nI (a_ + 1))) (lv' := [(9, .int (nI (a_ + 1))), (5, .int (nI 1)), (0, .ref x0), (1, .int (nI (nE s))), (2, .int (nI (cntF (fun k => onP s k (hE s)) (e_ + 1)))), (3, .int (nI (cntF (leafB s) (e_ + 1)))), (4, .int (nI (cntF (fun k => !fitE s k) (e_ + 1)))), (6, .int (nI e_))]) hx hb dL_entries_276 hl (k := 7) rfl (nI_add _ _) (by decide) rfl (fun ls hl => ?_)
                        refine lv_goto (tgt := 246) hx hb dL_entries_279 (by decide) ?_
                        exact ih246 (a_ + 1) uf2263 H locs ls (by omega) (by omega) (hP.sub [4, 5, 6, 0, 1, 2, 3, 7, 8] rfl) (hD.sub [4, 5, 6, 0, 1, 2, 3, 7, 8] (by decide) rfl) hS (lv_sub hl [2, 3, 4, 5, 6, 1, 7, 0] rfl)
                  exact loop246 _ 0 uf2230 H locs ls (by omega) (Nat.lt_succ_self _) (hP.sub [4, 5, 6, 0, 1, 2, 3, 7, 8] rfl) (hD.sub [4, 5, 6, 0, 1, 2, 3, 7, 8] (by decide) rfl) hS (lv_sub hl [3, 4, 5, 2, 6, 1, 7, 0] rfl)
              · skip
                refine lv_iconst (v := (nI 1)) hx hb dL_entries_151 (by decide) ?_
                refine lv_goto (tgt := 156) hx hb dL_entries_152 (by decide) ?_
                refine r_iadd_n hx hb dL_entries_156 ?_
                refine lv_istore_n (lv' := [(3, .int (nI ((cntF (leafB s) e_) + 1))), (0, .ref x0), (1, .int (nI (nE s))), (2, .int (nI (cntF (fun k => onP s k (hE s)) (e_ + 1)))), (4, .int (nI (cntF (fun k => !fitE s k) (e_ + 1)))), (5, .int (nI 1)), (6, .int (nI e_)), (7, .int (me s e_ 0)), (8, .int (bI (leafB s e_))), (9, .int (nI k_))]) hx hb dL_entries_157 rfl hl (by decide) rfl (fun ls hl => ?_)
                have hl : lv_has ls 10 [(3, .int (nI (cntF (leafB s) (e_ + 1)))), (0, .ref x0), (1, .int (nI (nE s))), (2, .int (nI (cntF (fun k => onP s k (hE s)) (e_ + 1)))), (4, .int (nI (cntF (fun k => !fitE s k) (e_ + 1)))), (5, .int (nI 1)), (6, .int (nI e_)), (7, .int (me s e_ 0)), (8, .int (bI (leafB s e_))), (9, .int (nI k_))] := by have el : (nI ((cntF (leafB s) e_) + 1)) = (nI (cntF (leafB s) (e_ + 1))) := (cnt_s_t c148); rw [← el]; exact hl
                refine lv_iload hx hb dL_entries_158 (lv_at hl 6 rfl) ?_
                refine r_if_ne (tgt := 173) hx hb (nI_tI (by omega)) dL_entries_160 (by decide) (fun c160 => ?_) (fun c160 => ?_)
                · skip
                  have hpl := hW.pl (e := e_) (by omega) (by omega)
                  have hds := dep_s hW (e := e_) (by omega) (by omega)
                  have hde := dep_le hW e_ (by omega)
                  have hl : lv_has ls 10 [(3, .int (nI (cntF (leafB s) (e_ + 1)))), (0, .ref x0), (1, .int (nI (nE s))), (2, .int (nI (cntF (fun k => onP s k (hE s)) (e_ + 1)))), (4, .int (nI (cntF (fun k => !fitE s k) (e_ + 1)))), (5, .int (nI 1)), (6, .int (nI e_)), (7, .int (nI (pa s e_))), (8, .int (bI (leafB s e_))), (9, .int (nI k_))] := by have el : (me s e_ 0) = (nI (pa s e_)) := (hW.p (by omega) (by omega)); rw [← el]; exact hl
                  refine lv_iload hx hb dL_entries_173 (lv_at hl 7 rfl) ?_
                  refine r_if_lt (tgt := 240) hx hb (nI_tI (by omega)) dL_entries_175 (by decide) (fun c175 => False.elim (by omega)) (fun c175 => ?_)
                  refine lv_iload hx hb dL_entries_178 (lv_at hl 7 rfl) ?_
                  refine lv_iload hx hb dL_entries_180 (lv_at hl 6 rfl) ?_
                  refine r_icmp_ge (tgt := 240) hx hb (nI_tI (by omega)) (nI_tI (by omega)) dL_entries_182 (by decide) (fun c182 => False.elim (by omega)) (fun c182 => ?_)
                  refine lv_aload_n hx hb dL_entries_185 rfl (lv_at hl 1 rfl) ?_
                  refine lv_iload hx hb dL_entries_186 (lv_at hl 6 rfl) ?_
                  refine lv_bipush (v := (nI 9)) hx hb dL_entries_188 (by decide) ?_
                  refine call_w (wr := [(xh, .inr (0, [.ref xhc, .int (nI st), .int (nI nx)])), (xhc, .inl (tq.1, 7365, .inl hc)), (xt, .inr (6, [.ref xtc, .int (nI tl)])), (xtc, .inl (tq.1, 100, .inl tx))]) (va_runV (As := [.int (nI e_), .int (nI 9)]) (rest := []) ⟨hx, hb, hml, hown, hts⟩ (kX7_entry ln dg tq (x0 := x0) (xl := xl) (xh := xh) (xt := xt) (xp := xp) (xo := xo) (xu := xu) (xw := xw) (xlc := xlc) (c := c) (s := s) (hF := hF) (xus := xus) (uf := g_) (x := (nI e_)) (w := (nI 9)) H.size) (cwV 2 hts gL_entries_X7_entry rfl rfl rfl hdX7_entry ⟨Nat.le_of_ble_eq_true rfl, Nat.le_of_ble_eq_true rfl⟩) (preVB hK hN hP hD [0, 1, 2, 7, 8] rfl rfl rfl 0 rfl rfl [.int (nI e_), .int (nI 9)]) rfl rfl hl.1 rfl (lv_room (Nat.le_of_ble_eq_true rfl)) dL_entries_190 ⟨Nat.le_refl _, Nat.le_refl _⟩) hP hD hS hA [0, 1, 2, 7, 8] [3, 4, 5, 6] rfl rfl (by decide) (by decide) (fun r190 u190 H locs hw190 hP hD hS => ?_)
                  obtain ⟨uf2190, rfl⟩ : ∃ z, z = u190 := ⟨_, rfl⟩
                  have hP : va_P dg vwCl [(xh, .inr (0, [.ref xhc, .int (nI st), .int (nI nx)])), (xhc, .inl (tq.1, 7365, .inl hc)), (xt, .inr (6, [.ref xtc, .int (nI tl)])), (xtc, .inl (tq.1, 100, .inl tx)), (x0, .inr (7, [.ref xl, .ref xh, .ref xt, .ref xp, .ref xo, .ref xu, .ref xw])), (xl, .inr (1, [.ref xlc])), (xlc, .inl (tq.1, 1473, .inl c)), (xu, .inr (5, [.ref xus])), (xus, .inl (tq.1, 6, .inl uf2190))] H := hP
                  have hD : va_D AA [(xh, .inr (0, [.ref xhc, .int (nI st), .int (nI nx)])), (xhc, .inl (tq.1, 7365, .inl hc)), (xt, .inr (6, [.ref xtc, .int (nI tl)])), (xtc, .inl (tq.1, 100, .inl tx)), (x0, .inr (7, [.ref xl, .ref xh, .ref xt, .ref xp, .ref xo, .ref xu, .ref xw])), (xl, .inr (1, [.ref xlc])), (xlc, .inl (tq.1, 1473, .inl c)), (xu, .inr (5, [.ref xus])), (xus, .inl (tq.1, 6, .inl uf2190))] := hD
                  subst hw190
                  refine r_top (show (etR s (nI e_) (nI 9)) = (nI (dep s e_)) from (et_ (by omega) (by omega) (by omega))) ?_
                  refine lv_aload_n hx hb dL_entries_193 rfl (lv_at hl 1 rfl) ?_
                  refine lv_iload hx hb dL_entries_194 (lv_at hl 7 rfl) ?_
                  refine lv_bipush (v := (nI 9)) hx hb dL_entries_196 (by decide) ?_
                  refine call_w (wr := [(xh, .inr (0, [.ref xhc, .int (nI st), .int (nI nx)])), (xhc, .inl (tq.1, 7365, .inl hc)), (xt, .inr (6, [.ref xtc, .int (nI tl)])), (xtc, .inl (tq.1, 100, .inl tx))]) (va_runV (As := [.int (nI (pa s e_)), .int (nI 9)]) (rest := [.int (nI (dep s e_))]) ⟨hx, hb, hml, hown, hts⟩ (kX7_entry ln dg tq (x0 := x0) (xl := xl) (xh := xh) (xt := xt) (xp := xp) (xo := xo) (xu := xu) (xw := xw) (xlc := xlc) (c := c) (s := s) (hF := hF) (xus := xus) (uf := uf2190) (x := (nI (pa s e_))) (w := (nI 9)) H.size) (cwV 2 hts gL_entries_X7_entry rfl rfl rfl hdX7_entry ⟨Nat.le_of_ble_eq_true rfl, Nat.le_of_ble_eq_true rfl⟩) (preVB hK hN hP hD [4, 5, 6, 7, 8] rfl rfl rfl 4 rfl rfl [.int (nI (pa s e_)), .int (nI 9)]) rfl rfl hl.1 rfl (lv_room (Nat.le_of_ble_eq_true rfl)) dL_entries_198 ⟨Nat.le_refl _, Nat.le_refl _⟩) hP hD hS hA [4, 5, 6, 7, 8] [0, 1, 2, 3] rfl rfl (by decide) (by decide) (fun r198 u198 H locs hw198 hP hD hS => ?_)
                  obtain ⟨uf2198, rfl⟩ : ∃ z, z = u198 := ⟨_, rfl⟩
                  have hP : va_P dg vwCl [(xh, .inr (0, [.ref xhc, .int (nI st), .int (nI nx)])), (xhc, .inl (tq.1, 7365, .inl hc)), (xt, .inr (6, [.ref xtc, .int (nI tl)])), (xtc, .inl (tq.1, 100, .inl tx)), (x0, .inr (7, [.ref xl, .ref xh, .ref xt, .ref xp, .ref xo, .ref xu, .ref xw])), (xl, .inr (1, [.ref xlc])), (xlc, .inl (tq.1, 1473, .inl c)), (xu, .inr (5, [.ref xus])), (xus, .inl (tq.1, 6, .inl uf2198))] H := hP
                  have hD : va_D AA [(xh, .inr (0, [.ref xhc, .int (nI st), .int (nI nx)])), (xhc, .inl (tq.1, 7365, .inl hc)), (xt, .inr (6, [.ref xtc, .int (nI tl)])), (xtc, .inl (tq.1, 100, .inl tx)), (x0, .inr (7, [.ref xl, .ref xh, .ref xt, .ref xp, .ref xo, .ref xu, .ref xw])), (xl, .inr (1, [.ref xlc])), (xlc, .inl (tq.1, 1473, .inl c)), (xu, .inr (5, [.ref xus])), (xus, .inl (tq.1, 6, .inl uf2198))] := hD
                  subst hw198
                  refine r_top (show (etR s (nI (pa s e_)) (nI 9)) = (nI (dep s (pa s e_))) from (et_ (by omega) (by omega) (by omega))) ?_
                  refine lv_iconst (v := (nI 1)) hx hb dL_entries_201 (by decide) ?_
                  refine r_iadd_n hx hb dL_entries_202 ?_
                  refine r_icmp_ne (tgt := 240) hx hb (nI_tI (by omega)) (nI_tI (by omega)) dL_entries_203 (by decide) (fun c203 => False.elim (by omega)) (fun c203 => ?_)
                  refine lv_aload_n hx hb dL_entries_206 rfl (lv_at hl 1 rfl) ?_
                  refine lv_iload hx hb dL_entries_207 (lv_at hl 6 rfl) ?_
                  refine lv_iconst (v := (nI 5)) hx hb dL_entries_209 (by decide) ?_
                  refine call_w (wr := [(xh, .inr (0, [.ref xhc, .int (nI st), .int (nI nx)])), (xhc, .inl (tq.1, 7365, .inl hc)), (xt, .inr (6, [.ref xtc, .int (nI tl)])), (xtc, .inl (tq.1, 100, .inl tx))]) (va_runV (As := [.int (nI e_), .int (nI 5)]) (rest := []) ⟨hx, hb, hml, hown, hts⟩ (kX7_entry ln dg tq (x0 := x0) (xl := xl) (xh := xh) (xt := xt) (xp := xp) (xo := xo) (xu := xu) (xw := xw) (xlc := xlc) (c := c) (s := s) (hF := hF) (xus := xus) (uf := uf2198) (x := (nI e_)) (w := (nI 5)) H.size) (cwV 2 hts gL_entries_X7_entry rfl rfl rfl hdX7_entry ⟨Nat.le_of_ble_eq_true rfl, Nat.le_of_ble_eq_true rfl⟩) (preVB hK hN hP hD [4, 5, 6, 7, 8] rfl rfl rfl 4 rfl rfl [.int (nI e_), .int (nI 5)]) rfl rfl hl.1 rfl (lv_room (Nat.le_of_ble_eq_true rfl)) dL_entries_210 ⟨Nat.le_refl _, Nat.le_refl _⟩) hP hD hS hA [4, 5, 6, 7, 8] [0, 1, 2, 3] rfl rfl (by decide) (by decide) (fun r210 u210 H locs hw210 hP hD hS => ?_)
                  obtain ⟨uf2210, rfl⟩ : ∃ z, z = u210 := ⟨_, rfl⟩
                  have hP : va_P dg vwCl [(xh, .inr (0, [.ref xhc, .int (nI st), .int (nI nx)])), (xhc, .inl (tq.1, 7365, .inl hc)), (xt, .inr (6, [.ref xtc, .int (nI tl)])), (xtc, .inl (tq.1, 100, .inl tx)), (x0, .inr (7, [.ref xl, .ref xh, .ref xt, .ref xp, .ref xo, .ref xu, .ref xw])), (xl, .inr (1, [.ref xlc])), (xlc, .inl (tq.1, 1473, .inl c)), (xu, .inr (5, [.ref xus])), (xus, .inl (tq.1, 6, .inl uf2210))] H := hP
                  have hD : va_D AA [(xh, .inr (0, [.ref xhc, .int (nI st), .int (nI nx)])), (xhc, .inl (tq.1, 7365, .inl hc)), (xt, .inr (6, [.ref xtc, .int (nI tl)])), (xtc, .inl (tq.1, 100, .inl tx)), (x0, .inr (7, [.ref xl, .ref xh, .ref xt, .ref xp, .ref xo, .ref xu, .ref xw])), (xl, .inr (1, [.ref xlc])), (xlc, .inl (tq.1, 1473, .inl c)), (xu, .inr (5, [.ref xus])), (xus, .inl (tq.1, 6, .inl uf2210))] := hD
                  subst hw210
                  refine r_top (show (etR s (nI e_) (nI 5)) = (me s e_ 5) from (et_ (by omega) (by omega) (by omega))) ?_
                  refine lv_sipush (v := (nI 9973)) hx hb dL_entries_213 (by decide) ?_
                  refine r_icmp_ge (tgt := 240) hx hb rfl (nI_tI (by omega)) dL_entries_216 (by decide) (fun c216 => False.elim (by have q := hX.2.2.1 e_ (by omega); omega)) (fun c216 => ?_)
                  refine lv_aload_n hx hb dL_entries_219 rfl (lv_at hl 1 rfl) ?_
                  refine lv_iload hx hb dL_entries_220 (lv_at hl 6 rfl) ?_
                  refine lv_bipush (v := (nI 10)) hx hb dL_entries_222 (by decide) ?_
                  refine call_w (wr := [(xh, .inr (0, [.ref xhc, .int (nI st), .int (nI nx)])), (xhc, .inl (tq.1, 7365, .inl hc)), (xt, .inr (6, [.ref xtc, .int (nI tl)])), (xtc, .inl (tq.1, 100, .inl tx))]) (va_runV (As := [.int (nI e_), .int (nI 10)]) (rest := []) ⟨hx, hb, hml, hown, hts⟩ (kX7_entry ln dg tq (x0 := x0) (xl := xl) (xh := xh) (xt := xt) (xp := xp) (xo := xo) (xu := xu) (xw := xw) (xlc := xlc) (c := c) (s := s) (hF := hF) (xus := xus) (uf := uf2210) (x := (nI e_)) (w := (nI 10)) H.size) (cwV 2 hts gL_entries_X7_entry rfl rfl rfl hdX7_entry ⟨Nat.le_of_ble_eq_true rfl, Nat.le_of_ble_eq_true rfl⟩) (preVB hK hN hP hD [4, 5, 6, 7, 8] rfl rfl rfl 4 rfl rfl [.int (nI e_), .int (nI 10)]) rfl rfl hl.1 rfl (lv_room (Nat.le_of_ble_eq_true rfl)) dL_entries_224 ⟨Nat.le_refl _, Nat.le_refl _⟩) hP hD hS hA [4, 5, 6, 7, 8] [0, 1, 2, 3] rfl rfl (by decide) (by decide) (fun r224 u224 H locs hw224 hP hD hS => ?_)
                  obtain ⟨uf2224, rfl⟩ : ∃ z, z = u224 := ⟨_, rfl⟩
                  have hP : va_P dg vwCl [(xh, .inr (0, [.ref xhc, .int (nI st), .int (nI nx)])), (xhc, .inl (tq.1, 7365, .inl hc)), (xt, .inr (6, [.ref xtc, .int (nI tl)])), (xtc, .inl (tq.1, 100, .inl tx)), (x0, .inr (7, [.ref xl, .ref xh, .ref xt, .ref xp, .ref xo, .ref xu, .ref xw])), (xl, .inr (1, [.ref xlc])), (xlc, .inl (tq.1, 1473, .inl c)), (xu, .inr (5, [.ref xus])), (xus, .inl (tq.1, 6, .inl uf2224))] H := hP
                  have hD : va_D AA [(xh, .inr (0, [.ref xhc, .int (nI st), .int (nI nx)])), (xhc, .inl (tq.1, 7365, .inl hc)), (xt, .inr (6, [.ref xtc, .int (nI tl)])), (xtc, .inl (tq.1, 100, .inl tx)), (x0, .inr (7, [.ref xl, .ref xh, .ref xt, .ref xp, .ref xo, .ref xu, .ref xw])), (xl, .inr (1, [.ref xlc])), (xlc, .inl (tq.1, 1473, .inl c)), (xu, .inr (5, [.ref xus])), (xus, .inl (tq.1, 6, .inl uf2224))] := hD
                  subst hw224
                  refine r_top (show (etR s (nI e_) (nI 10)) = (iI (sumB s e_)) from (et_ (by omega) (by omega) (by omega)).trans (totI_sum _ _)) ?_
                  refine lv_aload_n hx hb dL_entries_227 rfl (lv_at hl 1 rfl) ?_
                  refine lv_iload hx hb dL_entries_228 (lv_at hl 6 rfl) ?_
                  refine call_w (wr := [(xh, .inr (0, [.ref xhc, .int (nI st), .int (nI nx)])), (xhc, .inl (tq.1, 7365, .inl hc)), (xt, .inr (6, [.ref xtc, .int (nI tl)])), (xtc, .inl (tq.1, 100, .inl tx))]) (va_runS (As := [.ref x0, .int (nI e_)]) (rest := [.int (iI (sumB s e_))]) ⟨hx, hb, hml, hown, hts⟩ (kL_deposited ln dg tq (x0 := x0) (xl := xl) (xh := xh) (xt := xt) (xp := xp) (xo := xo) (xu := xu) (xw := xw) (xlc := xlc) (c := c) (s := s) (hF := hF) (xus := xus) (uf := uf2224) (e := e_) (he := (by omega)) H.size) (va_cwS 2 hts gL_entries_L_deposited rfl rfl rfl hdL_deposited.2 ⟨Nat.le_of_ble_eq_true rfl, Nat.le_of_ble_eq_true rfl⟩) (preSB hK hN hP hD [4, 5, 6, 7, 8] rfl rfl rfl [.ref x0, .int (nI e_)]) rfl rfl hl.1 rfl (lv_room (Nat.le_of_ble_eq_true rfl)) dL_entries_230 ⟨Nat.le_refl _, Nat.le_refl _⟩) hP hD hS hA [4, 5, 6, 7, 8] [0, 1, 2, 3] rfl rfl (by decide) (by decide) (fun r230 u230 H locs hw230 hP hD hS => ?_)
                  obtain ⟨uf2230, rfl⟩ : ∃ z, z = u230 := ⟨_, rfl⟩
                  have hP : va_P dg vwCl [(xh, .inr (0, [.ref xhc, .int (nI st), .int (nI nx)])), (xhc, .inl (tq.1, 7365, .inl hc)), (xt, .inr (6, [.ref xtc, .int (nI tl)])), (xtc, .inl (tq.1, 100, .inl tx)), (x0, .inr (7, [.ref xl, .ref xh, .ref xt, .ref xp, .ref xo, .ref xu, .ref xw])), (xl, .inr (1, [.ref xlc])), (xlc, .inl (tq.1, 1473, .inl c)), (xu, .inr (5, [.ref xus])), (xus, .inl (tq.1, 6, .inl uf2230))] H := hP
                  have hD : va_D AA [(xh, .inr (0, [.ref xhc, .int (nI st), .int (nI nx)])), (xhc, .inl (tq.1, 7365, .inl hc)), (xt, .inr (6, [.ref xtc, .int (nI tl)])), (xtc, .inl (tq.1, 100, .inl tx)), (x0, .inr (7, [.ref xl, .ref xh, .ref xt, .ref xp, .ref xo, .ref xu, .ref xw])), (xl, .inr (1, [.ref xlc])), (xlc, .inl (tq.1, 1473, .inl c)), (xu, .inr (5, [.ref xus])), (xus, .inl (tq.1, 6, .inl uf2230))] := hD
                  subst hw230
                  refine r_top (show (iI (sumB s e_)) = (iI (sumB s e_)) from rfl) ?_
                  refine lv_icmp_ne (tgt := 240) hx hb dL_entries_233 (by decide) (fun c233 => False.elim (by exact c233 rfl)) (fun c233 => ?_)
                  refine lv_iconst (v := (nI 1)) hx hb dL_entries_236 (by decide) ?_
                  refine lv_goto (tgt := 241) hx hb dL_entries_237 (by decide) ?_
                  refine lv_istore (lv' := [(5, .int (nI 1)), (3, .int (nI (cntF (leafB s) (e_ + 1)))), (0, .ref x0), (1, .int (nI (nE s))), (2, .int (nI (cntF (fun k => onP s k (hE s)) (e_ + 1)))), (4, .int (nI (cntF (fun k => !fitE s k) (e_ + 1)))), (6, .int (nI e_)), (7, .int (nI (pa s e_))), (8, .int (bI (leafB s e_))), (9, .int (nI k_))]) hx hb dL_entries_241 hl (by decide) rfl (fun ls hl => ?_)
                  refine lv_iconst (v := (nI 0)) hx hb dL_entries_243 (by decide) ?_
                  refine lv_istore (lv' := [(9, .int (nI 0)), (5, .int (nI 1)), (3, .int (nI (cntF (leafB s) (e_ + 1)))), (0, .ref x0), (1, .int (nI (nE s))), (2, .int (nI (cntF (fun k => onP s k (hE s)) (e_ + 1)))), (4, .int (nI (cntF (fun k => !fitE s k) (e_ + 1)))), (6, .int (nI e_)), (7, .int (nI (pa s e_))), (8, .int (bI (leafB s e_)))]) hx hb dL_entries_244 hl (by decide) rfl (fun ls hl => ?_)
                  have loop246 : ∀ (fu : Nat) (a_ : Nat) (h_ : Row) (H : Heap) (locs : List Loc) (ls : Array Slot), (a_ ≤ 6) → 6 - a_ < fu → va_P dg vwCl [(x0, .inr (7, [.ref xl, .ref xh, .ref xt, .ref xp, .ref xo, .ref xu, .ref xw])), (xl, .inr (1, [.ref xlc])), (xlc, .inl (tq.1, 1473, .inl c)), (xh, .inr (0, [.ref xhc, .int (nI st), .int (nI nx)])), (xhc, .inl (tq.1, 7365, .inl hc)), (xt, .inr (6, [.ref xtc, .int (nI tl)])), (xtc, .inl (tq.1, 100, .inl tx)), (xu, .inr (5, [.ref xus])), (xus, .inl (tq.1, 6, .inl h_))] H → va_D AA [(x0, .inr (7, [.ref xl, .ref xh, .ref xt, .ref xp, .ref xo, .ref xu, .ref xw])), (xl, .inr (1, [.ref xlc])), (xlc, .inl (tq.1, 1473, .inl c)), (xh, .inr (0, [.ref xhc, .int (nI st), .int (nI nx)])), (xhc, .inl (tq.1, 7365, .inl hc)), (xt, .inr (6, [.ref xtc, .int (nI tl)])), (xtc, .inl (tq.1, 100, .inl tx)), (xu, .inr (5, [.ref xus])), (xus, .inl (tq.1, 6, .inl h_))] → va_S AA sS.heap H locs → lv_has ls 10 [(0, .ref x0), (1, .int (nI (nE s))), (2, .int (nI (cntF (fun k => onP s k (hE s)) (e_ + 1)))), (3, .int (nI (cntF (leafB s) (e_ + 1)))), (4, .int (nI (cntF (fun k => !fitE s k) (e_ + 1)))), (5, .int (nI 1)), (6, .int (nI e_)), (9, .int (nI a_))] → W pP ln eE (rmm 6 136) sS mM aA bB mT cC H locs 0 0 QQ (F0 mM 246 ls []) := by
                    intro fu
                    induction fu with
                    | zero => intro a_ h_ H locs ls _ hm; exact absurd hm (Nat.not_lt_zero _)
                    | succ fu ih246 =>
                      intro a_ h_ H locs ls hinv hm hP hD hS hl
                      refine lv_iload hx hb dL_entries_246 (lv_at hl 7 rfl) ?_
                      refine lv_bipush (v := (nI 6)) hx hb dL_entries_248 (by decide) ?_
                      refine r_icmp_ge (tgt := 282) hx hb (nI_tI (by omega)) (nI_tI (by omega)) dL_entries_250 (by decide) (fun c250 => ?_) (fun c250 => ?_)
                      · skip
                        refine lv_iinc (v := (nI (e_ + 1))) (lv' := [(6, .int (nI (e_ + 1))), (0, .ref x0), (1, .int (nI (nE s))), (2, .int (nI (cntF (fun k => onP s k (hE s)) (e_ + 1)))), (3, .int (nI (cntF (leafB s) (e_ + 1)))), (4, .int (nI (cntF (fun k => !fitE s k) (e_ + 1)))), (5, .int (nI 1)), (9, .int (nI a_))]) hx hb dL_entries_282 hl (k := 6) rfl (nI_add _ _) (by decide) rfl (fun ls hl => ?_)
                        refine lv_goto (tgt := 56) hx hb dL_entries_285 (by decide) ?_
                        exact ih56 (e_ + 1) h_ H locs ls (by omega) (by omega) (hP.sub [0, 1, 2, 3, 4, 5, 6, 7, 8] rfl) (hD.sub [0, 1, 2, 3, 4, 5, 6, 7, 8] (by decide) rfl) hS (lv_sub hl [1, 2, 3, 4, 5, 6, 0] rfl)
                      · skip
                        refine lv_iload hx hb dL_entries_253 (lv_at hl 5 rfl) ?_
                        refine r_if_eq (tgt := 282) hx hb (nI_tI (by omega)) dL_entries_255 (by decide) (fun c255 => False.elim (by omega)) (fun c255 => ?_)
                        have hbd := bal_bd hW (e := e_) (by omega) a_ (by omega)
                        refine lv_aload_n hx hb dL_entries_258 rfl (lv_at hl 0 rfl) ?_
                        refine lv_iload hx hb dL_entries_259 (lv_at hl 7 rfl) ?_
                        refine lv_iload hx hb dL_entries_261 (lv_at hl 6 rfl) ?_
                        refine call_w (wr := [(xh, .inr (0, [.ref xhc, .int (nI st), .int (nI nx)])), (xhc, .inl (tq.1, 7365, .inl hc)), (xt, .inr (6, [.ref xtc, .int (nI tl)])), (xtc, .inl (tq.1, 100, .inl tx))]) (va_runV (As := [.int (nI a_), .int (nI e_)]) (rest := []) ⟨hx, hb, hml, hown, hts⟩ (kX7_balance ln dg tq (x0 := x0) (xl := xl) (xh := xh) (xt := xt) (xp := xp) (xo := xo) (xu := xu) (xw := xw) (xlc := xlc) (c := c) (s := s) (hF := hF) (xus := xus) (uf := h_) (a := (nI a_)) (x := (nI e_)) H.size) (cwV 2 hts gL_entries_X7_balance rfl rfl rfl hdX7_balance ⟨Nat.le_of_ble_eq_true rfl, Nat.le_of_ble_eq_true rfl⟩) (preVB hK hN hP hD [0, 1, 2, 7, 8] rfl rfl rfl 0 rfl rfl [.int (nI a_), .int (nI e_)]) rfl rfl hl.1 rfl (lv_room (Nat.le_of_ble_eq_true rfl)) dL_entries_263 ⟨Nat.le_refl _, Nat.le_refl _⟩) hP hD hS hA [0, 1, 2, 7, 8] [3, 4, 5, 6] rfl rfl (by decide) (by decide) (fun r263 u263 H locs hw263 hP hD hS => ?_)
                        obtain ⟨uf2263, rfl⟩ : ∃ z, z = u263 := ⟨_, rfl⟩
                        have hP : va_P dg vwCl [(xh, .inr (0, [.ref xhc, .int (nI st), .int (nI nx)])), (xhc, .inl (tq.1, 7365, .inl hc)), (xt, .inr (6, [.ref xtc, .int (nI tl)])), (xtc, .inl (tq.1, 100, .inl tx)), (x0, .inr (7, [.ref xl, .ref xh, .ref xt, .ref xp, .ref xo, .ref xu, .ref xw])), (xl, .inr (1, [.ref xlc])), (xlc, .inl (tq.1, 1473, .inl c)), (xu, .inr (5, [.ref xus])), (xus, .inl (tq.1, 6, .inl uf2263))] H := hP
                        have hD : va_D AA [(xh, .inr (0, [.ref xhc, .int (nI st), .int (nI nx)])), (xhc, .inl (tq.1, 7365, .inl hc)), (xt, .inr (6, [.ref xtc, .int (nI tl)])), (xtc, .inl (tq.1, 100, .inl tx)), (x0, .inr (7, [.ref xl, .ref xh, .ref xt, .ref xp, .ref xo, .ref xu, .ref xw])), (xl, .inr (1, [.ref xlc])), (xlc, .inl (tq.1, 1473, .inl c)), (xu, .inr (5, [.ref xus])), (xus, .inl (tq.1, 6, .inl uf2263))] := hD
                        subst hw263
                        refine r_top (show (baR s (nI a_) (nI e_)) = (iI (bal s e_ a_)) from ba_ (by omega) (by omega) (by omega)) ?_
                        refine r_if_lt (tgt := 273) hx hb (iI_toInt (by omega) (by omega)) dL_entries_266 (by decide) (fun c266 => False.elim (by omega)) (fun c266 => ?_)
                        refine lv_iconst (v := (nI 1)) hx hb dL_entries_269 (by decide) ?_
                        refine lv_goto (tgt := 274) hx hb dL_entries_270 (by decide) ?_
                        refine lv_istore (lv' := [(5, .int (nI 1)), (0, .ref x0), (1, .int (nI (nE s))), (2, .int (nI (cntF (fun k => onP s k (hE s)) (e_ + 1)))), (3, .int (nI (cntF (leafB s) (e_ + 1)))), (4, .int (nI (cntF (fun k => !fitE s k) (e_ + 1)))), (6, .int (nI e_)), (9, .int (nI a_))]) hx hb dL_entries_274 hl (by decide) rfl (fun ls hl => ?_)
                        refine lv_iinc (v := (nI (a_ + 1))) (lv' := [(9, .int (nI (a_ + 1))), (5, .int (nI 1)), (0, .ref x0), (1, .int (nI (nE s))), (2, .int (nI (cntF (fun k => onP s k (hE s)) (e_ + 1)))), (3, .int (nI (cntF (leafB s) (e_ + 1)))), (4, .int (nI (cntF (fun k => !fitE s k) (e_ + 1)))), (6, .int (nI e_))]) hx hb dL_entries_276 hl (k := 7) rfl (nI_add _ _) (by decide) rfl (fun ls hl => ?_)
                        refine lv_goto (tgt := 246) hx hb dL_entries_279 (by decide) ?_
                        exact ih246 (a_ + 1) uf2263 H locs ls (by omega) (by omega) (hP.sub [4, 5, 6, 0, 1, 2, 3, 7, 8] rfl) (hD.sub [4, 5, 6, 0, 1, 2, 3, 7, 8] (by decide) rfl) hS (lv_sub hl [2, 3, 4, 5, 6, 1, 7, 0] rfl)
                  exact loop246 _ 0 uf2230 H locs ls (by omega) (Nat.lt_succ_self _) (hP.sub [4, 5, 6, 0, 1, 2, 3, 7, 8] rfl) (hD.sub [4, 5, 6, 0, 1, 2, 3, 7, 8] (by decide) rfl) hS (lv_sub hl [3, 4, 5, 2, 6, 1, 7, 0] rfl)
                · skip
                  refine lv_iload hx hb dL_entries_163 (lv_at hl 7 rfl) ?_
                  refine lv_ldc hx hb hown k19 dL_entries_165 ?_
                  refine r_icmp_ne (tgt := 240) hx hb rfl (by decide : ((-100009) : Int32).toInt = (-100009)) dL_entries_167 (by decide) (fun c167 => False.elim (by exact c167 (by rw [show e_ = 0 by omega, hX.1]; decide))) (fun c167 => ?_)
                  refine lv_goto (tgt := 206) hx hb dL_entries_170 (by decide) ?_
                  refine lv_aload_n hx hb dL_entries_206 rfl (lv_at hl 1 rfl) ?_
                  refine lv_iload hx hb dL_entries_207 (lv_at hl 6 rfl) ?_
                  refine lv_iconst (v := (nI 5)) hx hb dL_entries_209 (by decide) ?_
                  refine call_w (wr := [(xh, .inr (0, [.ref xhc, .int (nI st), .int (nI nx)])), (xhc, .inl (tq.1, 7365, .inl hc)), (xt, .inr (6, [.ref xtc, .int (nI tl)])), (xtc, .inl (tq.1, 100, .inl tx))]) (va_runV (As := [.int (nI e_), .int (nI 5)]) (rest := []) ⟨hx, hb, hml, hown, hts⟩ (kX7_entry ln dg tq (x0 := x0) (xl := xl) (xh := xh) (xt := xt) (xp := xp) (xo := xo) (xu := xu) (xw := xw) (xlc := xlc) (c := c) (s := s) (hF := hF) (xus := xus) (uf := g_) (x := (nI e_)) (w := (nI 5)) H.size) (cwV 2 hts gL_entries_X7_entry rfl rfl rfl hdX7_entry ⟨Nat.le_of_ble_eq_true rfl, Nat.le_of_ble_eq_true rfl⟩) (preVB hK hN hP hD [0, 1, 2, 7, 8] rfl rfl rfl 0 rfl rfl [.int (nI e_), .int (nI 5)]) rfl rfl hl.1 rfl (lv_room (Nat.le_of_ble_eq_true rfl)) dL_entries_210 ⟨Nat.le_refl _, Nat.le_refl _⟩) hP hD hS hA [0, 1, 2, 7, 8] [3, 4, 5, 6] rfl rfl (by decide) (by decide) (fun r210 u210 H locs hw210 hP hD hS => ?_)
                  obtain ⟨uf2210, rfl⟩ : ∃ z, z = u210 := ⟨_, rfl⟩
                  have hP : va_P dg vwCl [(xh, .inr (0, [.ref xhc, .int (nI st), .int (nI nx)])), (xhc, .inl (tq.1, 7365, .inl hc)), (xt, .inr (6, [.ref xtc, .int (nI tl)])), (xtc, .inl (tq.1, 100, .inl tx)), (x0, .inr (7, [.ref xl, .ref xh, .ref xt, .ref xp, .ref xo, .ref xu, .ref xw])), (xl, .inr (1, [.ref xlc])), (xlc, .inl (tq.1, 1473, .inl c)), (xu, .inr (5, [.ref xus])), (xus, .inl (tq.1, 6, .inl uf2210))] H := hP
                  have hD : va_D AA [(xh, .inr (0, [.ref xhc, .int (nI st), .int (nI nx)])), (xhc, .inl (tq.1, 7365, .inl hc)), (xt, .inr (6, [.ref xtc, .int (nI tl)])), (xtc, .inl (tq.1, 100, .inl tx)), (x0, .inr (7, [.ref xl, .ref xh, .ref xt, .ref xp, .ref xo, .ref xu, .ref xw])), (xl, .inr (1, [.ref xlc])), (xlc, .inl (tq.1, 1473, .inl c)), (xu, .inr (5, [.ref xus])), (xus, .inl (tq.1, 6, .inl uf2210))] := hD
                  subst hw210
                  refine r_top (show (etR s (nI e_) (nI 5)) = (me s e_ 5) from (et_ (by omega) (by omega) (by omega))) ?_
                  refine lv_sipush (v := (nI 9973)) hx hb dL_entries_213 (by decide) ?_
                  refine r_icmp_ge (tgt := 240) hx hb rfl (nI_tI (by omega)) dL_entries_216 (by decide) (fun c216 => False.elim (by have q := hX.2.2.1 e_ (by omega); omega)) (fun c216 => ?_)
                  refine lv_aload_n hx hb dL_entries_219 rfl (lv_at hl 1 rfl) ?_
                  refine lv_iload hx hb dL_entries_220 (lv_at hl 6 rfl) ?_
                  refine lv_bipush (v := (nI 10)) hx hb dL_entries_222 (by decide) ?_
                  refine call_w (wr := [(xh, .inr (0, [.ref xhc, .int (nI st), .int (nI nx)])), (xhc, .inl (tq.1, 7365, .inl hc)), (xt, .inr (6, [.ref xtc, .int (nI tl)])), (xtc, .inl (tq.1, 100, .inl tx))]) (va_runV (As := [.int (nI e_), .int (nI 10)]) (rest := []) ⟨hx, hb, hml, hown, hts⟩ (kX7_entry ln dg tq (x0 := x0) (xl := xl) (xh := xh) (xt := xt) (xp := xp) (xo := xo) (xu := xu) (xw := xw) (xlc := xlc) (c := c) (s := s) (hF := hF) (xus := xus) (uf := uf2210) (x := (nI e_)) (w := (nI 10)) H.size) (cwV 2 hts gL_entries_X7_entry rfl rfl rfl hdX7_entry ⟨Nat.le_of_ble_eq_true rfl, Nat.le_of_ble_eq_true rfl⟩) (preVB hK hN hP hD [4, 5, 6, 7, 8] rfl rfl rfl 4 rfl rfl [.int (nI e_), .int (nI 10)]) rfl rfl hl.1 rfl (lv_room (Nat.le_of_ble_eq_true rfl)) dL_entries_224 ⟨Nat.le_refl _, Nat.le_refl _⟩) hP hD hS hA [4, 5, 6, 7, 8] [0, 1, 2, 3] rfl rfl (by decide) (by decide) (fun r224 u224 H locs hw224 hP hD hS => ?_)
                  obtain ⟨uf2224, rfl⟩ : ∃ z, z = u224 := ⟨_, rfl⟩
                  have hP : va_P dg vwCl [(xh, .inr (0, [.ref xhc, .int (nI st), .int (nI nx)])), (xhc, .inl (tq.1, 7365, .inl hc)), (xt, .inr (6, [.ref xtc, .int (nI tl)])), (xtc, .inl (tq.1, 100, .inl tx)), (x0, .inr (7, [.ref xl, .ref xh, .ref xt, .ref xp, .ref xo, .ref xu, .ref xw])), (xl, .inr (1, [.ref xlc])), (xlc, .inl (tq.1, 1473, .inl c)), (xu, .inr (5, [.ref xus])), (xus, .inl (tq.1, 6, .inl uf2224))] H := hP
                  have hD : va_D AA [(xh, .inr (0, [.ref xhc, .int (nI st), .int (nI nx)])), (xhc, .inl (tq.1, 7365, .inl hc)), (xt, .inr (6, [.ref xtc, .int (nI tl)])), (xtc, .inl (tq.1, 100, .inl tx)), (x0, .inr (7, [.ref xl, .ref xh, .ref xt, .ref xp, .ref xo, .ref xu, .ref xw])), (xl, .inr (1, [.ref xlc])), (xlc, .inl (tq.1, 1473, .inl c)), (xu, .inr (5, [.ref xus])), (xus, .inl (tq.1, 6, .inl uf2224))] := hD
                  subst hw224
                  refine r_top (show (etR s (nI e_) (nI 10)) = (iI (sumB s e_)) from (et_ (by omega) (by omega) (by omega)).trans (totI_sum _ _)) ?_
                  refine lv_aload_n hx hb dL_entries_227 rfl (lv_at hl 1 rfl) ?_
                  refine lv_iload hx hb dL_entries_228 (lv_at hl 6 rfl) ?_
                  refine call_w (wr := [(xh, .inr (0, [.ref xhc, .int (nI st), .int (nI nx)])), (xhc, .inl (tq.1, 7365, .inl hc)), (xt, .inr (6, [.ref xtc, .int (nI tl)])), (xtc, .inl (tq.1, 100, .inl tx))]) (va_runS (As := [.ref x0, .int (nI e_)]) (rest := [.int (iI (sumB s e_))]) ⟨hx, hb, hml, hown, hts⟩ (kL_deposited ln dg tq (x0 := x0) (xl := xl) (xh := xh) (xt := xt) (xp := xp) (xo := xo) (xu := xu) (xw := xw) (xlc := xlc) (c := c) (s := s) (hF := hF) (xus := xus) (uf := uf2224) (e := e_) (he := (by omega)) H.size) (va_cwS 2 hts gL_entries_L_deposited rfl rfl rfl hdL_deposited.2 ⟨Nat.le_of_ble_eq_true rfl, Nat.le_of_ble_eq_true rfl⟩) (preSB hK hN hP hD [4, 5, 6, 7, 8] rfl rfl rfl [.ref x0, .int (nI e_)]) rfl rfl hl.1 rfl (lv_room (Nat.le_of_ble_eq_true rfl)) dL_entries_230 ⟨Nat.le_refl _, Nat.le_refl _⟩) hP hD hS hA [4, 5, 6, 7, 8] [0, 1, 2, 3] rfl rfl (by decide) (by decide) (fun r230 u230 H locs hw230 hP hD hS => ?_)
                  obtain ⟨uf2230, rfl⟩ : ∃ z, z = u230 := ⟨_, rfl⟩
                  have hP : va_P dg vwCl [(xh, .inr (0, [.ref xhc, .int (nI st), .int (nI nx)])), (xhc, .inl (tq.1, 7365, .inl hc)), (xt, .inr (6, [.ref xtc, .int (nI tl)])), (xtc, .inl (tq.1, 100, .inl tx)), (x0, .inr (7, [.ref xl, .ref xh, .ref xt, .ref xp, .ref xo, .ref xu, .ref xw])), (xl, .inr (1, [.ref xlc])), (xlc, .inl (tq.1, 1473, .inl c)), (xu, .inr (5, [.ref xus])), (xus, .inl (tq.1, 6, .inl uf2230))] H := hP
                  have hD : va_D AA [(xh, .inr (0, [.ref xhc, .int (nI st), .int (nI nx)])), (xhc, .inl (tq.1, 7365, .inl hc)), (xt, .inr (6, [.ref xtc, .int (nI tl)])), (xtc, .inl (tq.1, 100, .inl tx)), (x0, .inr (7, [.ref xl, .ref xh, .ref xt, .ref xp, .ref xo, .ref xu, .ref xw])), (xl, .inr (1, [.ref xlc])), (xlc, .inl (tq.1, 1473, .inl c)), (xu, .inr (5, [.ref xus])), (xus, .inl (tq.1, 6, .inl uf2230))] := hD
                  subst hw230
                  refine r_top (show (iI (sumB s e_)) = (iI (sumB s e_)) from rfl) ?_
                  refine lv_icmp_ne (tgt := 240) hx hb dL_entries_233 (by decide) (fun c233 => False.elim (by exact c233 rfl)) (fun c233 => ?_)
                  refine lv_iconst (v := (nI 1)) hx hb dL_entries_236 (by decide) ?_
                  refine lv_goto (tgt := 241) hx hb dL_entries_237 (by decide) ?_
                  refine lv_istore (lv' := [(5, .int (nI 1)), (3, .int (nI (cntF (leafB s) (e_ + 1)))), (0, .ref x0), (1, .int (nI (nE s))), (2, .int (nI (cntF (fun k => onP s k (hE s)) (e_ + 1)))), (4, .int (nI (cntF (fun k => !fitE s k) (e_ + 1)))), (6, .int (nI e_)), (7, .int (me s e_ 0)), (8, .int (bI (leafB s e_))), (9, .int (nI k_))]) hx hb dL_entries_241 hl (by decide) rfl (fun ls hl => ?_)
                  refine lv_iconst (v := (nI 0)) hx hb dL_entries_243 (by decide) ?_
                  refine lv_istore (lv' := [(9, .int (nI 0)), (5, .int (nI 1)), (3, .int (nI (cntF (leafB s) (e_ + 1)))), (0, .ref x0), (1, .int (nI (nE s))), (2, .int (nI (cntF (fun k => onP s k (hE s)) (e_ + 1)))), (4, .int (nI (cntF (fun k => !fitE s k) (e_ + 1)))), (6, .int (nI e_)), (7, .int (me s e_ 0)), (8, .int (bI (leafB s e_)))]) hx hb dL_entries_244 hl (by decide) rfl (fun ls hl => ?_)
                  have loop246 : ∀ (fu : Nat) (a_ : Nat) (h_ : Row) (H : Heap) (locs : List Loc) (ls : Array Slot), (a_ ≤ 6) → 6 - a_ < fu → va_P dg vwCl [(x0, .inr (7, [.ref xl, .ref xh, .ref xt, .ref xp, .ref xo, .ref xu, .ref xw])), (xl, .inr (1, [.ref xlc])), (xlc, .inl (tq.1, 1473, .inl c)), (xh, .inr (0, [.ref xhc, .int (nI st), .int (nI nx)])), (xhc, .inl (tq.1, 7365, .inl hc)), (xt, .inr (6, [.ref xtc, .int (nI tl)])), (xtc, .inl (tq.1, 100, .inl tx)), (xu, .inr (5, [.ref xus])), (xus, .inl (tq.1, 6, .inl h_))] H → va_D AA [(x0, .inr (7, [.ref xl, .ref xh, .ref xt, .ref xp, .ref xo, .ref xu, .ref xw])), (xl, .inr (1, [.ref xlc])), (xlc, .inl (tq.1, 1473, .inl c)), (xh, .inr (0, [.ref xhc, .int (nI st), .int (nI nx)])), (xhc, .inl (tq.1, 7365, .inl hc)), (xt, .inr (6, [.ref xtc, .int (nI tl)])), (xtc, .inl (tq.1, 100, .inl tx)), (xu, .inr (5, [.ref xus])), (xus, .inl (tq.1, 6, .inl h_))] → va_S AA sS.heap H locs → lv_has ls 10 [(0, .ref x0), (1, .int (nI (nE s))), (2, .int (nI (cntF (fun k => onP s k (hE s)) (e_ + 1)))), (3, .int (nI (cntF (leafB s) (e_ + 1)))), (4, .int (nI (cntF (fun k => !fitE s k) (e_ + 1)))), (5, .int (nI 1)), (6, .int (nI e_)), (9, .int (nI a_))] → W pP ln eE (rmm 6 136) sS mM aA bB mT cC H locs 0 0 QQ (F0 mM 246 ls []) := by
                    intro fu
                    induction fu with
                    | zero => intro a_ h_ H locs ls _ hm; exact absurd hm (Nat.not_lt_zero _)
                    | succ fu ih246 =>
                      intro a_ h_ H locs ls hinv hm hP hD hS hl
                      refine lv_iload hx hb dL_entries_246 (lv_at hl 7 rfl) ?_
                      refine lv_bipush (v := (nI 6)) hx hb dL_entries_248 (by decide) ?_
                      refine r_icmp_ge (tgt := 282) hx hb (nI_tI (by omega)) (nI_tI (by omega)) dL_entries_250 (by decide) (fun c250 => ?_) (fun c250 => ?_)
                      · skip
                        refine lv_iinc (v := (nI (e_ + 1))) (lv' := [(6, .int (nI (e_ + 1))), (0, .ref x0), (1, .int (nI (nE s))), (2, .int (nI (cntF (fun k => onP s k (hE s)) (e_ + 1)))), (3, .int (nI (cntF (leafB s) (e_ + 1)))), (4, .int (nI (cntF (fun k => !fitE s k) (e_ + 1)))), (5, .int (nI 1)), (9, .int (nI a_))]) hx hb dL_entries_282 hl (k := 6) rfl (nI_add _ _) (by decide) rfl (fun ls hl => ?_)
                        refine lv_goto (tgt := 56) hx hb dL_entries_285 (by decide) ?_
                        exact ih56 (e_ + 1) h_ H locs ls (by omega) (by omega) (hP.sub [0, 1, 2, 3, 4, 5, 6, 7, 8] rfl) (hD.sub [0, 1, 2, 3, 4, 5, 6, 7, 8] (by decide) rfl) hS (lv_sub hl [1, 2, 3, 4, 5, 6, 0] rfl)
                      · skip
                        refine lv_iload hx hb dL_entries_253 (lv_at hl 5 rfl) ?_
                        refine r_if_eq (tgt := 282) hx hb (nI_tI (by omega)) dL_entries_255 (by decide) (fun c255 => False.elim (by omega)) (fun c255 => ?_)
                        have hbd := bal_bd hW (e := e_) (by omega) a_ (by omega)
                        refine lv_aload_n hx hb dL_entries_258 rfl (lv_at hl 0 rfl) ?_
                        refine lv_iload hx hb dL_entries_259 (lv_at hl 7 rfl) ?_
                        refine lv_iload hx hb dL_entries_261 (lv_at hl 6 rfl) ?_
                        refine call_w (wr := [(xh, .inr (0, [.ref xhc, .int (nI st), .int (nI nx)])), (xhc, .inl (tq.1, 7365, .inl hc)), (xt, .inr (6, [.ref xtc, .int (nI tl)])), (xtc, .inl (tq.1, 100, .inl tx))]) (va_runV (As := [.int (nI a_), .int (nI e_)]) (rest := []) ⟨hx, hb, hml, hown, hts⟩ (kX7_balance ln dg tq (x0 := x0) (xl := xl) (xh := xh) (xt := xt) (xp := xp) (xo := xo) (xu := xu) (xw := xw) (xlc := xlc) (c := c) (s := s) (hF := hF) (xus := xus) (uf := h_) (a := (nI a_)) (x := (nI e_)) H.size) (cwV 2 hts gL_entries_X7_balance rfl rfl rfl hdX7_balance ⟨Nat.le_of_ble_eq_true rfl, Nat.le_of_ble_eq_true rfl⟩) (preVB hK hN hP hD [0, 1, 2, 7, 8] rfl rfl rfl 0 rfl rfl [.int (nI a_), .int (nI e_)]) rfl rfl hl.1 rfl (lv_room (Nat.le_of_ble_eq_true rfl)) dL_entries_263 ⟨Nat.le_refl _, Nat.le_refl _⟩) hP hD hS hA [0, 1, 2, 7, 8] [3, 4, 5, 6] rfl rfl (by decide) (by decide) (fun r263 u263 H locs hw263 hP hD hS => ?_)
                        obtain ⟨uf2263, rfl⟩ : ∃ z, z = u263 := ⟨_, rfl⟩
                        have hP : va_P dg vwCl [(xh, .inr (0, [.ref xhc, .int (nI st), .int (nI nx)])), (xhc, .inl (tq.1, 7365, .inl hc)), (xt, .inr (6, [.ref xtc, .int (nI tl)])), (xtc, .inl (tq.1, 100, .inl tx)), (x0, .inr (7, [.ref xl, .ref xh, .ref xt, .ref xp, .ref xo, .ref xu, .ref xw])), (xl, .inr (1, [.ref xlc])), (xlc, .inl (tq.1, 1473, .inl c)), (xu, .inr (5, [.ref xus])), (xus, .inl (tq.1, 6, .inl uf2263))] H := hP
                        have hD : va_D AA [(xh, .inr (0, [.ref xhc, .int (nI st), .int (nI nx)])), (xhc, .inl (tq.1, 7365, .inl hc)), (xt, .inr (6, [.ref xtc, .int (nI tl)])), (xtc, .inl (tq.1, 100, .inl tx)), (x0, .inr (7, [.ref xl, .ref xh, .ref xt, .ref xp, .ref xo, .ref xu, .ref xw])), (xl, .inr (1, [.ref xlc])), (xlc, .inl (tq.1, 1473, .inl c)), (xu, .inr (5, [.ref xus])), (xus, .inl (tq.1, 6, .inl uf2263))] := hD
                        subst hw263
                        refine r_top (show (baR s (nI a_) (nI e_)) = (iI (bal s e_ a_)) from ba_ (by omega) (by omega) (by omega)) ?_
                        refine r_if_lt (tgt := 273) hx hb (iI_toInt (by omega) (by omega)) dL_entries_266 (by decide) (fun c266 => False.elim (by omega)) (fun c266 => ?_)
                        refine lv_iconst (v := (nI 1)) hx hb dL_entries_269 (by decide) ?_
                        refine lv_goto (tgt := 274) hx hb dL_entries_270 (by decide) ?_
                        refine lv_istore (lv' := [(5, .int (nI 1)), (0, .ref x0), (1, .int (nI (nE s))), (2, .int (nI (cntF (fun k => onP s k (hE s)) (e_ + 1)))), (3, .int (nI (cntF (leafB s) (e_ + 1)))), (4, .int (nI (cntF (fun k => !fitE s k) (e_ + 1)))), (6, .int (nI e_)), (9, .int (nI a_))]) hx hb dL_entries_274 hl (by decide) rfl (fun ls hl => ?_)
                        refine lv_iinc (v := (nI (a_ + 1))) (lv' := [(9, .int (nI (a_ + 1))), (5, .int (nI 1)), (0, .ref x0), (1, .int (nI (nE s))), (2, .int (nI (cntF (fun k => onP s k (hE s)) (e_ + 1)))), (3, .int (nI (cntF (leafB s) (e_ + 1)))), (4, .int (nI (cntF (fun k => !fitE s k) (e_ + 1)))), (6, .int (nI e_))]) hx hb dL_entries_276 hl (k := 7) rfl (nI_add _ _) (by decide) rfl (fun ls hl => ?_)
                        refine lv_goto (tgt := 246) hx hb dL_entries_279 (by decide) ?_
                        exact ih246 (a_ + 1) uf2263 H locs ls (by omega) (by omega) (hP.sub [4, 5, 6, 0, 1, 2, 3, 7, 8] rfl) (hD.sub [4, 5, 6, 0, 1, 2, 3, 7, 8] (by decide) rfl) hS (lv_sub hl [2, 3, 4, 5, 6, 1, 7, 0] rfl)
                  exact loop246 _ 0 uf2230 H locs ls (by omega) (Nat.lt_succ_self _) (hP.sub [4, 5, 6, 0, 1, 2, 3, 7, 8] rfl) (hD.sub [4, 5, 6, 0, 1, 2, 3, 7, 8] (by decide) rfl) hS (lv_sub hl [3, 4, 5, 2, 6, 1, 7, 0] rfl)
            · skip
              have hpk := hW.pl (e := k_) (by omega) (by omega)
              refine lv_iload hx hb dL_entries_117 (lv_at hl 8 rfl) ?_
              refine lv_aload_n hx hb dL_entries_119 rfl (lv_at hl 0 rfl) ?_
              refine lv_iload hx hb dL_entries_120 (lv_at hl 9 rfl) ?_
              refine lv_iconst (v := (nI 4)) hx hb dL_entries_122 (by decide) ?_
              refine call_w (wr := [(xh, .inr (0, [.ref xhc, .int (nI st), .int (nI nx)])), (xhc, .inl (tq.1, 7365, .inl hc)), (xt, .inr (6, [.ref xtc, .int (nI tl)])), (xtc, .inl (tq.1, 100, .inl tx))]) (va_runV (As := [.int (nI k_), .int (nI 4)]) (rest := [.int (bI (lfp s e_ k_))]) ⟨hx, hb, hml, hown, hts⟩ (kX7_entry ln dg tq (x0 := x0) (xl := xl) (xh := xh) (xt := xt) (xp := xp) (xo := xo) (xu := xu) (xw := xw) (xlc := xlc) (c := c) (s := s) (hF := hF) (xus := xus) (uf := g_) (x := (nI k_)) (w := (nI 4)) H.size) (cwV 2 hts gL_entries_X7_entry rfl rfl rfl hdX7_entry ⟨Nat.le_of_ble_eq_true rfl, Nat.le_of_ble_eq_true rfl⟩) (preVB hK hN hP hD [0, 1, 2, 7, 8] rfl rfl rfl 0 rfl rfl [.int (nI k_), .int (nI 4)]) rfl rfl hl.1 rfl (lv_room (Nat.le_of_ble_eq_true rfl)) dL_entries_123 ⟨Nat.le_refl _, Nat.le_refl _⟩) hP hD hS hA [0, 1, 2, 7, 8] [3, 4, 5, 6] rfl rfl (by decide) (by decide) (fun r123 u123 H locs hw123 hP hD hS => ?_)
              obtain ⟨uf2123, rfl⟩ : ∃ z, z = u123 := ⟨_, rfl⟩
              have hP : va_P dg vwCl [(xh, .inr (0, [.ref xhc, .int (nI st), .int (nI nx)])), (xhc, .inl (tq.1, 7365, .inl hc)), (xt, .inr (6, [.ref xtc, .int (nI tl)])), (xtc, .inl (tq.1, 100, .inl tx)), (x0, .inr (7, [.ref xl, .ref xh, .ref xt, .ref xp, .ref xo, .ref xu, .ref xw])), (xl, .inr (1, [.ref xlc])), (xlc, .inl (tq.1, 1473, .inl c)), (xu, .inr (5, [.ref xus])), (xus, .inl (tq.1, 6, .inl uf2123))] H := hP
              have hD : va_D AA [(xh, .inr (0, [.ref xhc, .int (nI st), .int (nI nx)])), (xhc, .inl (tq.1, 7365, .inl hc)), (xt, .inr (6, [.ref xtc, .int (nI tl)])), (xtc, .inl (tq.1, 100, .inl tx)), (x0, .inr (7, [.ref xl, .ref xh, .ref xt, .ref xp, .ref xo, .ref xu, .ref xw])), (xl, .inr (1, [.ref xlc])), (xlc, .inl (tq.1, 1473, .inl c)), (xu, .inr (5, [.ref xus])), (xus, .inl (tq.1, 6, .inl uf2123))] := hD
              subst hw123
              refine r_top (show (etR s (nI k_) (nI 4)) = (nI (pa s k_)) from (et_ (by omega) (by omega) (by omega)).trans (hW.p (by omega) (by omega))) ?_
              refine lv_iload hx hb dL_entries_126 (lv_at hl 6 rfl) ?_
              refine r_icmp_eq (tgt := 135) hx hb (nI_tI (by omega)) (nI_tI (by omega)) dL_entries_128 (by decide) (fun c128 => ?_) (fun c128 => ?_)
              · skip
                refine lv_iconst (v := (nI 0)) hx hb dL_entries_135 (by decide) ?_
                refine lv_iand hx hb dL_entries_136 ?_
                refine r_top (show ((bI (lfp s e_ k_)) &&& (nI 0)) = (bI (lfp s e_ (k_ + 1))) from lfp_y (by omega) (by omega)) ?_
                refine lv_istore (lv' := [(8, .int (bI (lfp s e_ (k_ + 1)))), (0, .ref x0), (1, .int (nI (nE s))), (2, .int (nI (cntF (fun k => onP s k (hE s)) (e_ + 1)))), (3, .int (nI (cntF (leafB s) e_))), (4, .int (nI (cntF (fun k => !fitE s k) (e_ + 1)))), (5, .int (nI 1)), (6, .int (nI e_)), (7, .int (me s e_ 0)), (9, .int (nI k_))]) hx hb dL_entries_137 hl (by decide) rfl (fun ls hl => ?_)
                refine lv_iinc (v := (nI (k_ + 1))) (lv' := [(9, .int (nI (k_ + 1))), (8, .int (bI (lfp s e_ (k_ + 1)))), (0, .ref x0), (1, .int (nI (nE s))), (2, .int (nI (cntF (fun k => onP s k (hE s)) (e_ + 1)))), (3, .int (nI (cntF (leafB s) e_))), (4, .int (nI (cntF (fun k => !fitE s k) (e_ + 1)))), (5, .int (nI 1)), (6, .int (nI e_)), (7, .int (me s e_ 0))]) hx hb dL_entries_139 hl (k := 9) rfl (nI_add _ _) (by decide) rfl (fun ls hl => ?_)
                refine lv_goto (tgt := 111) hx hb dL_entries_142 (by decide) ?_
                exact ih111 (k_ + 1) uf2123 H locs ls (by omega) (by omega) (hP.sub [4, 5, 6, 0, 1, 2, 3, 7, 8] rfl) (hD.sub [4, 5, 6, 0, 1, 2, 3, 7, 8] (by decide) rfl) hS (lv_sub hl [2, 3, 4, 5, 6, 7, 8, 9, 1, 0] rfl)
              · skip
                refine lv_iconst (v := (nI 1)) hx hb dL_entries_131 (by decide) ?_
                refine lv_goto (tgt := 136) hx hb dL_entries_132 (by decide) ?_
                refine lv_iand hx hb dL_entries_136 ?_
                refine r_top (show ((bI (lfp s e_ k_)) &&& (nI 1)) = (bI (lfp s e_ (k_ + 1))) from lfp_n (by omega) (by omega)) ?_
                refine lv_istore (lv' := [(8, .int (bI (lfp s e_ (k_ + 1)))), (0, .ref x0), (1, .int (nI (nE s))), (2, .int (nI (cntF (fun k => onP s k (hE s)) (e_ + 1)))), (3, .int (nI (cntF (leafB s) e_))), (4, .int (nI (cntF (fun k => !fitE s k) (e_ + 1)))), (5, .int (nI 1)), (6, .int (nI e_)), (7, .int (me s e_ 0)), (9, .int (nI k_))]) hx hb dL_entries_137 hl (by decide) rfl (fun ls hl => ?_)
                refine lv_iinc (v := (nI (k_ + 1))) (lv' := [(9, .int (nI (k_ + 1))), (8, .int (bI (lfp s e_ (k_ + 1)))), (0, .ref x0), (1, .int (nI (nE s))), (2, .int (nI (cntF (fun k => onP s k (hE s)) (e_ + 1)))), (3, .int (nI (cntF (leafB s) e_))), (4, .int (nI (cntF (fun k => !fitE s k) (e_ + 1)))), (5, .int (nI 1)), (6, .int (nI e_)), (7, .int (me s e_ 0))]) hx hb dL_entries_139 hl (k := 9) rfl (nI_add _ _) (by decide) rfl (fun ls hl => ?_)
                refine lv_goto (tgt := 111) hx hb dL_entries_142 (by decide) ?_
                exact ih111 (k_ + 1) uf2123 H locs ls (by omega) (by omega) (hP.sub [4, 5, 6, 0, 1, 2, 3, 7, 8] rfl) (hD.sub [4, 5, 6, 0, 1, 2, 3, 7, 8] (by decide) rfl) hS (lv_sub hl [2, 3, 4, 5, 6, 7, 8, 9, 1, 0] rfl)
        exact loop111 _ (e_ + 1) uf295 H locs ls (by omega) (Nat.lt_succ_self _) (hP.sub [4, 5, 6, 0, 1, 2, 3, 7, 8] rfl) (hD.sub [4, 5, 6, 0, 1, 2, 3, 7, 8] (by decide) rfl) hS (lv_sub hl [5, 6, 3, 7, 2, 8, 9, 4, 1, 0] rfl)
  exact loop56 _ 0 uf239 H locs ls (by omega) (Nat.lt_succ_self _) (hP.sub [4, 5, 6, 0, 1, 2, 3, 7, 8] rfl) (hD.sub [4, 5, 6, 0, 1, 2, 3, 7, 8] (by decide) rfl) hS (lv_sub hl [6, 5, 4, 3, 2, 1, 0] rfl)
