theorem hdL_writes : yL_writes.cls = RL ∧ yL_writes.cls ≠ "java/lang/invoke/MethodHandle" ∧ yL_writes.cls ≠ "java/lang/invoke/VarHandle" ∧ (parseMethodDescriptor yL_writes.desc).map (fun d => d.parameters.length) = some 2 := by decide +kernel
set_option maxHeartbeats 4000000 in
set_option maxRecDepth 100000 in
theorem kL_writes (ln : Launch) (dg : va_G) (tq : ClassId × ClassId) (x0 xl xh xt xp xo xu xw : Nat)(xlc : Nat) (c : Row) (s : Row)(xhc : Nat) (st nx : Nat) (hc : Row)(hL : LX s c st nx)(xtc : Nat) (tl : Nat) (tx : Row)(xus : Nat) (uf : Row) (z : Nat) (hz : z < 134217728) : MW ln yL_writes wsL_writes (rmm 6 133) dg tq [.ref x0, .int (nI z)] [(x0, .inr (7, [.ref xl, .ref xh, .ref xt, .ref xp, .ref xo, .ref xu, .ref xw])), (xl, .inr (1, [.ref xlc])), (xlc, .inl (tq.1, 1473, .inl c)), (xh, .inr (0, [.ref xhc, .int (nI st), .int (nI nx)])), (xhc, .inl (tq.1, 7365, .inl hc)), (xt, .inr (6, [.ref xtc, .int (nI tl)])), (xtc, .inl (tq.1, 100, .inl tx)), (xu, .inr (5, [.ref xus])), (xus, .inl (tq.1, 6, .inl uf))] (fun (r : Int32) (u : Row × Row × Nat × Nat × Row) => r = (nI 1) ∧ (∃ s2, LX s2 u.1 u.2.2.1 u.2.2.2.1)) (fun u => [(x0, .inr (7, [.ref xl, .ref xh, .ref xt, .ref xp, .ref xo, .ref xu, .ref xw])), (xl, .inr (1, [.ref xlc])), (xlc, .inl (tq.1, 1473, .inl u.1)), (xh, .inr (0, [.ref xhc, .int (nI u.2.2.1), .int (nI u.2.2.2.1)])), (xhc, .inl (tq.1, 7365, .inl u.2.1)), (xt, .inr (6, [.ref xtc, .int (nI tl)])), (xtc, .inl (tq.1, 100, .inl tx)), (xu, .inr (5, [.ref xus])), (xus, .inl (tq.1, 6, .inl u.2.2.2.2))]) := by
  refine MW.enter cL_writes 9 .boolean (by decide) rfl rfl (Nat.le_of_ble_eq_true rfl) ?_
  intro pP eE sS mM aA bB mT cC QQ AA hA hAT hret H locs hP hD hS ls hl
  obtain ⟨hx, hb, hml, hown, hts, hK, hN⟩ := hAT
  have hown : sS.vm.findClass RL = some mM.cls := hown
  have hl : lv_has ls 9 [(0, .ref x0), (1, .int (nI z))] := hl
  have k19 := hts (.constant RL 19 (-100009)) (List.mem_of_getElem? (i := 1) rfl)
  obtain ⟨hF, hX, hst, hnx⟩ := id hL
  obtain ⟨hR, hW, hs0, hs1⟩ := id hF
  have hn60 := hW.n60
  have hb10 := hW.b10
  have hs8 := hW.s8
  have hhn := hW.hn
  have hcl := cntF_le (loudB s) (nB s)
  have hn1 := hW.n1
  have hdl := dep_le hW _ hW.hn
  have hd1 := dep_ge1 s (hE s)
  refine lv_aload_n hx hb dL_writes_0 rfl (lv_at hl 0 rfl) ?_
  refine lv_iconst (v := (nI 5)) hx hb dL_writes_1 (by decide) ?_
  refine call_x (va_runV (As := [.int (nI 5)]) (rest := []) ⟨hx, hb, hml, hown, hts⟩ (kX7_count ln dg tq (x0 := x0) (xl := xl) (xh := xh) (xt := xt) (xp := xp) (xo := xo) (xu := xu) (xw := xw) (xlc := xlc) (c := c) (s := s) (hF := hF) (xhc := xhc) (st := st) (nx := nx) (hc := hc) (xtc := xtc) (tl := tl) (tx := tx) (x := (nI 5)) H.size) (cwV 1 hts gL_writes_X7_count rfl rfl rfl hdX7_count ⟨Nat.le_of_ble_eq_true rfl, Nat.le_of_ble_eq_true rfl⟩) (preVR hK hN hP [0, 1, 2, 3, 4, 5, 6] rfl 0 rfl rfl [.int (nI 5)]) rfl rfl hl.1 rfl (lv_room (Nat.le_of_ble_eq_true rfl)) dL_writes_2 ⟨Nat.le_refl _, Nat.le_refl _⟩) hP hS hA (fun H locs hP hS => ?_)
  refine r_top (show (ctR s st tl (nI 5)) = (nI (cntF (loudB s) (nB s))) from ct_ (by omega)) ?_
  refine lv_istore_n (lv' := [(2, .int (nI (cntF (loudB s) (nB s)))), (0, .ref x0), (1, .int (nI z))]) hx hb dL_writes_5 rfl hl (by decide) rfl (fun ls hl => ?_)
  refine lv_aload_n hx hb dL_writes_6 rfl (lv_at hl 1 rfl) ?_
  refine lv_iconst (v := (nI 0)) hx hb dL_writes_7 (by decide) ?_
  refine call_x (va_runV (As := [.int (nI 0)]) (rest := []) ⟨hx, hb, hml, hown, hts⟩ (kX7_count ln dg tq (x0 := x0) (xl := xl) (xh := xh) (xt := xt) (xp := xp) (xo := xo) (xu := xu) (xw := xw) (xlc := xlc) (c := c) (s := s) (hF := hF) (xhc := xhc) (st := st) (nx := nx) (hc := hc) (xtc := xtc) (tl := tl) (tx := tx) (x := (nI 0)) H.size) (cwV 1 hts gL_writes_X7_count rfl rfl rfl hdX7_count ⟨Nat.le_of_ble_eq_true rfl, Nat.le_of_ble_eq_true rfl⟩) (preVR hK hN hP [0, 1, 2, 3, 4, 5, 6] rfl 0 rfl rfl [.int (nI 0)]) rfl rfl hl.1 rfl (lv_room (Nat.le_of_ble_eq_true rfl)) dL_writes_8 ⟨Nat.le_refl _, Nat.le_refl _⟩) hP hS hA (fun H locs hP hS => ?_)
  refine r_top (show (ctR s st tl (nI 0)) = (nI (nE s)) from ct_ (by omega)) ?_
  refine lv_istore_n (lv' := [(3, .int (nI (nE s))), (2, .int (nI (cntF (loudB s) (nB s)))), (0, .ref x0), (1, .int (nI z))]) hx hb dL_writes_11 rfl hl (by decide) rfl (fun ls hl => ?_)
  refine lv_aload_n hx hb dL_writes_12 rfl (lv_at hl 2 rfl) ?_
  refine lv_iconst (v := (nI 1)) hx hb dL_writes_13 (by decide) ?_
  refine call_x (va_runV (As := [.int (nI 1)]) (rest := []) ⟨hx, hb, hml, hown, hts⟩ (kX7_count ln dg tq (x0 := x0) (xl := xl) (xh := xh) (xt := xt) (xp := xp) (xo := xo) (xu := xu) (xw := xw) (xlc := xlc) (c := c) (s := s) (hF := hF) (xhc := xhc) (st := st) (nx := nx) (hc := hc) (xtc := xtc) (tl := tl) (tx := tx) (x := (nI 1)) H.size) (cwV 1 hts gL_writes_X7_count rfl rfl rfl hdX7_count ⟨Nat.le_of_ble_eq_true rfl, Nat.le_of_ble_eq_true rfl⟩) (preVR hK hN hP [0, 1, 2, 3, 4, 5, 6] rfl 0 rfl rfl [.int (nI 1)]) rfl rfl hl.1 rfl (lv_room (Nat.le_of_ble_eq_true rfl)) dL_writes_14 ⟨Nat.le_refl _, Nat.le_refl _⟩) hP hS hA (fun H locs hP hS => ?_)
  refine r_top (show (ctR s st tl (nI 1)) = (nI (hE s)) from ct_ (by omega)) ?_
  refine lv_istore (lv' := [(4, .int (nI (hE s))), (3, .int (nI (nE s))), (2, .int (nI (cntF (loudB s) (nB s)))), (0, .ref x0), (1, .int (nI z))]) hx hb dL_writes_17 hl (by decide) rfl (fun ls hl => ?_)
  refine lv_aload_n hx hb dL_writes_19 rfl (lv_at hl 3 rfl) ?_
  refine lv_iconst (v := (nI 3)) hx hb dL_writes_20 (by decide) ?_
  refine call_x (va_runV (As := [.int (nI 3)]) (rest := []) ⟨hx, hb, hml, hown, hts⟩ (kX7_count ln dg tq (x0 := x0) (xl := xl) (xh := xh) (xt := xt) (xp := xp) (xo := xo) (xu := xu) (xw := xw) (xlc := xlc) (c := c) (s := s) (hF := hF) (xhc := xhc) (st := st) (nx := nx) (hc := hc) (xtc := xtc) (tl := tl) (tx := tx) (x := (nI 3)) H.size) (cwV 1 hts gL_writes_X7_count rfl rfl rfl hdX7_count ⟨Nat.le_of_ble_eq_true rfl, Nat.le_of_ble_eq_true rfl⟩) (preVR hK hN hP [0, 1, 2, 3, 4, 5, 6] rfl 0 rfl rfl [.int (nI 3)]) rfl rfl hl.1 rfl (lv_room (Nat.le_of_ble_eq_true rfl)) dL_writes_21 ⟨Nat.le_refl _, Nat.le_refl _⟩) hP hS hA (fun H locs hP hS => ?_)
  refine r_top (show (ctR s st tl (nI 3)) = (nI (nB s)) from ct_ (by omega)) ?_
  refine r_if_ne (tgt := 31) hx hb (nI_tI (by omega)) dL_writes_24 (by decide) (fun c24 => ?_) (fun c24 => ?_)
  · skip
    refine lv_aload_n hx hb dL_writes_31 rfl (lv_at hl 3 rfl) ?_
    refine lv_iconst (v := (nI 0)) hx hb dL_writes_32 (by decide) ?_
    refine lv_iconst (v := (nI 3)) hx hb dL_writes_33 (by decide) ?_
    refine call_x (va_runV (As := [.int (nI 0), .int (nI 3)]) (rest := []) ⟨hx, hb, hml, hown, hts⟩ (kX7_branch ln dg tq (x0 := x0) (xl := xl) (xh := xh) (xt := xt) (xp := xp) (xo := xo) (xu := xu) (xw := xw) (xlc := xlc) (c := c) (s := s) (hF := hF) (x := (nI 0)) (w := (nI 3)) H.size) (cwV 2 hts gL_writes_X7_branch rfl rfl rfl hdX7_branch ⟨Nat.le_of_ble_eq_true rfl, Nat.le_of_ble_eq_true rfl⟩) (preVR hK hN hP [0, 1, 2] rfl 0 rfl rfl [.int (nI 0), .int (nI 3)]) rfl rfl hl.1 rfl (lv_room (Nat.le_of_ble_eq_true rfl)) dL_writes_34 ⟨Nat.le_refl _, Nat.le_refl _⟩) hP hS hA (fun H locs hP hS => ?_)
    refine r_top (show (brR s (nI 0) (nI 3)) = (mb s 0 2) from (br_ (by omega) (by omega) (by omega))) ?_
    refine lv_istore (lv' := [(5, .int (mb s 0 2)), (4, .int (nI (hE s))), (3, .int (nI (nE s))), (2, .int (nI (cntF (loudB s) (nB s)))), (0, .ref x0), (1, .int (nI z))]) hx hb dL_writes_37 hl (by decide) rfl (fun ls hl => ?_)
    refine lv_aload_n hx hb dL_writes_39 rfl (lv_at hl 4 rfl) ?_
    refine lv_iconst (v := (nI 3)) hx hb dL_writes_40 (by decide) ?_
    refine call_x (va_runV (As := [.int (nI 3)]) (rest := []) ⟨hx, hb, hml, hown, hts⟩ (kX7_count ln dg tq (x0 := x0) (xl := xl) (xh := xh) (xt := xt) (xp := xp) (xo := xo) (xu := xu) (xw := xw) (xlc := xlc) (c := c) (s := s) (hF := hF) (xhc := xhc) (st := st) (nx := nx) (hc := hc) (xtc := xtc) (tl := tl) (tx := tx) (x := (nI 3)) H.size) (cwV 1 hts gL_writes_X7_count rfl rfl rfl hdX7_count ⟨Nat.le_of_ble_eq_true rfl, Nat.le_of_ble_eq_true rfl⟩) (preVR hK hN hP [0, 1, 2, 3, 4, 5, 6] rfl 0 rfl rfl [.int (nI 3)]) rfl rfl hl.1 rfl (lv_room (Nat.le_of_ble_eq_true rfl)) dL_writes_41 ⟨Nat.le_refl _, Nat.le_refl _⟩) hP hS hA (fun H locs hP hS => ?_)
    refine r_top (show (ctR s st tl (nI 3)) = (nI (nB s)) from ct_ (by omega)) ?_
    refine r_if_ne (tgt := 51) hx hb (nI_tI (by omega)) dL_writes_44 (by decide) (fun c44 => ?_) (fun c44 => False.elim (by omega))
    refine lv_aload_n hx hb dL_writes_51 rfl (lv_at hl 4 rfl) ?_
    refine lv_iconst (v := (nI 0)) hx hb dL_writes_52 (by decide) ?_
    refine lv_iconst (v := (nI 4)) hx hb dL_writes_53 (by decide) ?_
    refine call_x (va_runV (As := [.int (nI 0), .int (nI 4)]) (rest := []) ⟨hx, hb, hml, hown, hts⟩ (kX7_branch ln dg tq (x0 := x0) (xl := xl) (xh := xh) (xt := xt) (xp := xp) (xo := xo) (xu := xu) (xw := xw) (xlc := xlc) (c := c) (s := s) (hF := hF) (x := (nI 0)) (w := (nI 4)) H.size) (cwV 2 hts gL_writes_X7_branch rfl rfl rfl hdX7_branch ⟨Nat.le_of_ble_eq_true rfl, Nat.le_of_ble_eq_true rfl⟩) (preVR hK hN hP [0, 1, 2] rfl 0 rfl rfl [.int (nI 0), .int (nI 4)]) rfl rfl hl.1 rfl (lv_room (Nat.le_of_ble_eq_true rfl)) dL_writes_54 ⟨Nat.le_refl _, Nat.le_refl _⟩) hP hS hA (fun H locs hP hS => ?_)
    refine r_top (show (brR s (nI 0) (nI 4)) = (brN s 0 4) from (br_ (by omega) (by omega) (by omega))) ?_
    refine lv_istore (lv' := [(6, .int (brN s 0 4)), (5, .int (mb s 0 2)), (4, .int (nI (hE s))), (3, .int (nI (nE s))), (2, .int (nI (cntF (loudB s) (nB s)))), (0, .ref x0), (1, .int (nI z))]) hx hb dL_writes_57 hl (by decide) rfl (fun ls hl => ?_)
    refine lv_iload_n hx hb dL_writes_59 rfl (lv_at hl 6 rfl) ?_
    refine lv_iconst (v := (nI 4)) hx hb dL_writes_60 (by decide) ?_
    refine r_irem_n hx hb (by omega) (by omega) (by omega) dL_writes_61 ?_
    refine lv_istore (lv' := [(7, .int (nI (z % 4))), (6, .int (brN s 0 4)), (5, .int (mb s 0 2)), (4, .int (nI (hE s))), (3, .int (nI (nE s))), (2, .int (nI (cntF (loudB s) (nB s)))), (0, .ref x0), (1, .int (nI z))]) hx hb dL_writes_62 hl (by decide) rfl (fun ls hl => ?_)
    refine lv_iload hx hb dL_writes_64 (lv_at hl 0 rfl) ?_
    refine r_if_ne (tgt := 92) hx hb (nI_tI (by omega)) dL_writes_66 (by decide) (fun c66 => ?_) (fun c66 => ?_)
    · skip
      refine lv_iload hx hb dL_writes_92 (lv_at hl 0 rfl) ?_
      refine lv_iconst (v := (nI 1)) hx hb dL_writes_94 (by decide) ?_
      refine r_icmp_ne (tgt := 121) hx hb (nI_tI (by omega)) (nI_tI (by omega)) dL_writes_95 (by decide) (fun c95 => ?_) (fun c95 => ?_)
      · skip
        refine lv_iload hx hb dL_writes_121 (lv_at hl 0 rfl) ?_
        refine lv_iconst (v := (nI 2)) hx hb dL_writes_123 (by decide) ?_
        refine r_icmp_ne (tgt := 141) hx hb (nI_tI (by omega)) (nI_tI (by omega)) dL_writes_124 (by decide) (fun c124 => ?_) (fun c124 => ?_)
        · skip
          refine lv_aload_n hx hb dL_writes_141 rfl (lv_at hl 6 rfl) ?_
          refine lv_iconst (v := (nI 1)) hx hb dL_writes_142 (by decide) ?_
          refine lv_iload_n hx hb dL_writes_143 rfl (lv_at hl 7 rfl) ?_
          refine lv_iconst (v := (nI 4)) hx hb dL_writes_144 (by decide) ?_
          refine r_idiv_n hx hb (by omega) (by omega) (by omega) dL_writes_145 ?_
          refine lv_iconst (v := (nI 5)) hx hb dL_writes_146 (by decide) ?_
          refine r_irem_n hx hb (by omega) (by omega) (by omega) dL_writes_147 ?_
          refine r_iadd_n hx hb dL_writes_148 ?_
          refine lv_iconst (v := (nI 1)) hx hb dL_writes_149 (by decide) ?_
          refine lv_iload_n hx hb dL_writes_150 rfl (lv_at hl 7 rfl) ?_
          refine lv_iconst (v := (nI 4)) hx hb dL_writes_151 (by decide) ?_
          refine r_idiv_n hx hb (by omega) (by omega) (by omega) dL_writes_152 ?_
          refine lv_iconst (v := (nI 1)) hx hb dL_writes_153 (by decide) ?_
          refine r_iadd_n hx hb dL_writes_154 ?_
          refine lv_iconst (v := (nI 5)) hx hb dL_writes_155 (by decide) ?_
          refine r_irem_n hx hb (by omega) (by omega) (by omega) dL_writes_156 ?_
          refine r_iadd_n hx hb dL_writes_157 ?_
          refine lv_iconst (v := (nI 1)) hx hb dL_writes_158 (by decide) ?_
          refine lv_iload_n hx hb dL_writes_159 rfl (lv_at hl 7 rfl) ?_
          refine lv_bipush (v := (nI 32)) hx hb dL_writes_160 (by decide) ?_
          refine r_idiv_n hx hb (by omega) (by omega) (by omega) dL_writes_162 ?_
          refine lv_bipush (v := (nI 90)) hx hb dL_writes_163 (by decide) ?_
          refine r_irem_n hx hb (by omega) (by omega) (by omega) dL_writes_165 ?_
          refine r_iadd_n hx hb dL_writes_166 ?_
          refine call_w (wr := [(xt, .inr (6, [.ref xtc, .int (nI tl)])), (xtc, .inl (tq.1, 100, .inl tx))]) (va_runV (As := [.int (nI (1 + ((z / 4) % 5))), .int (nI (1 + (((z / 4) + 1) % 5))), .int (nI (1 + ((z / 32) % 90)))]) (rest := []) ⟨hx, hb, hml, hown, hts⟩ (kX7_pay ln dg tq (x0 := x0) (xl := xl) (xh := xh) (xt := xt) (xp := xp) (xo := xo) (xu := xu) (xw := xw) (xlc := xlc) (c := c) (s := s) (hF := hF) (xhc := xhc) (st := st) (nx := nx) (hc := hc) (hst := (by omega)) (hnx := (by omega)) (xus := xus) (uf := uf) (f := (nI (1 + ((z / 4) % 5)))) (t := (nI (1 + (((z / 4) + 1) % 5)))) (am := (nI (1 + ((z / 32) % 90)))) H.size) (cwV 3 hts gL_writes_X7_pay rfl rfl rfl hdX7_pay ⟨Nat.le_of_ble_eq_true rfl, Nat.le_of_ble_eq_true rfl⟩) (preVB hK hN hP hD [0, 1, 2, 3, 4, 7, 8] rfl rfl rfl 0 rfl rfl [.int (nI (1 + ((z / 4) % 5))), .int (nI (1 + (((z / 4) + 1) % 5))), .int (nI (1 + ((z / 32) % 90)))]) rfl rfl hl.1 rfl (lv_room (Nat.le_of_ble_eq_true rfl)) dL_writes_167 ⟨Nat.le_refl _, Nat.le_refl _⟩) hP hD hS hA [0, 1, 2, 3, 4, 7, 8] [5, 6] rfl rfl (by decide) (by decide) (fun r167 u167 H locs hw167 hP hD hS => ?_)
          obtain ⟨cw167, hc2167, st2167, nx2167, uf2167⟩ := u167
          have hP : va_P dg vwCl [(xt, .inr (6, [.ref xtc, .int (nI tl)])), (xtc, .inl (tq.1, 100, .inl tx)), (x0, .inr (7, [.ref xl, .ref xh, .ref xt, .ref xp, .ref xo, .ref xu, .ref xw])), (xl, .inr (1, [.ref xlc])), (xlc, .inl (tq.1, 1473, .inl cw167)), (xh, .inr (0, [.ref xhc, .int (nI st2167), .int (nI nx2167)])), (xhc, .inl (tq.1, 7365, .inl hc2167)), (xu, .inr (5, [.ref xus])), (xus, .inl (tq.1, 6, .inl uf2167))] H := hP
          have hD : va_D AA [(xt, .inr (6, [.ref xtc, .int (nI tl)])), (xtc, .inl (tq.1, 100, .inl tx)), (x0, .inr (7, [.ref xl, .ref xh, .ref xt, .ref xp, .ref xo, .ref xu, .ref xw])), (xl, .inr (1, [.ref xlc])), (xlc, .inl (tq.1, 1473, .inl cw167)), (xh, .inr (0, [.ref xhc, .int (nI st2167), .int (nI nx2167)])), (xhc, .inl (tq.1, 7365, .inl hc2167)), (xu, .inr (5, [.ref xus])), (xus, .inl (tq.1, 6, .inl uf2167))] := hD
          obtain ⟨hr167, hw167⟩ := hw167
          subst hr167
          obtain ⟨tv_, htv_⟩ : ∃ x : Int32, x = pyR s (nI (1 + z / 4 % 5)) (nI (1 + (z / 4 + 1) % 5)) (nI (1 + z / 32 % 90)) := ⟨_, rfl⟩
          obtain ⟨s1, hL1, hB1, hneg, hpos, -⟩ := A_py hL (by omega) (by omega) (by omega) (by omega) (by omega) (by omega) (by omega) htv_ hw167
          obtain ⟨hF1, hX1, hst1, hnx1⟩ := id hL1
          obtain ⟨hR1, hW1, -, -⟩ := id hF1
          have hn601 := hW1.n60
          have hn11 := hW1.n1
          have hb101 := hW1.b10
          have hs81 := hW1.s8
          have hhn1 := hW1.hn
          refine r_top (show (pyR s (nI (1 + ((z / 4) % 5))) (nI (1 + (((z / 4) + 1) % 5))) (nI (1 + ((z / 32) % 90)))) = tv_ from htv_.symm) ?_
          refine lv_istore (lv' := [(8, .int tv_), (7, .int (nI (z % 4))), (6, .int (brN s 0 4)), (5, .int (mb s 0 2)), (4, .int (nI (hE s))), (3, .int (nI (nE s))), (2, .int (nI (cntF (loudB s) (nB s)))), (0, .ref x0), (1, .int (nI z))]) hx hb dL_writes_170 hl (by decide) rfl (fun ls hl => ?_)
          refine lv_iload hx hb dL_writes_172 (lv_at hl 0 rfl) ?_
          refine r_if_ge (tgt := 236) hx hb rfl dL_writes_174 (by decide) (fun c174 => ?_) (fun c174 => ?_)
          · skip
            obtain ⟨q1, q2, q3, q4, q5, q6, q7, q8⟩ := hpos c174
            refine lv_iload_n hx hb dL_writes_236 rfl (lv_at hl 6 rfl) ?_
            refine r_if_ne (tgt := 323) hx hb (nI_tI (by omega)) dL_writes_237 (by decide) (fun c237 => False.elim (by omega)) (fun c237 => ?_)
            refine lv_iload hx hb dL_writes_240 (lv_at hl 0 rfl) ?_
            refine lv_iload_n hx hb dL_writes_242 rfl (lv_at hl 5 rfl) ?_
            refine r_icmp_ne (tgt := 323) hx hb rfl (nI_tI (by omega)) dL_writes_243 (by decide) (fun c243 => False.elim (by omega)) (fun c243 => ?_)
            refine lv_aload_n hx hb dL_writes_246 rfl (lv_at hl 7 rfl) ?_
            refine lv_iconst (v := (nI 1)) hx hb dL_writes_247 (by decide) ?_
            refine call_x (va_runV (As := [.int (nI 1)]) (rest := []) ⟨hx, hb, hml, hown, hts⟩ (kX7_count ln dg tq (x0 := x0) (xl := xl) (xh := xh) (xt := xt) (xp := xp) (xo := xo) (xu := xu) (xw := xw) (xlc := xlc) (c := cw167) (s := s1) (hF := hF1) (xhc := xhc) (st := st2167) (nx := nx2167) (hc := hc2167) (xtc := xtc) (tl := tl) (tx := tx) (x := (nI 1)) H.size) (cwV 1 hts gL_writes_X7_count rfl rfl rfl hdX7_count ⟨Nat.le_of_ble_eq_true rfl, Nat.le_of_ble_eq_true rfl⟩) (preVR hK hN hP [2, 3, 4, 5, 6, 0, 1] rfl 2 rfl rfl [.int (nI 1)]) rfl rfl hl.1 rfl (lv_room (Nat.le_of_ble_eq_true rfl)) dL_writes_248 ⟨Nat.le_refl _, Nat.le_refl _⟩) hP hS hA (fun H locs hP hS => ?_)
            refine r_top (show (ctR s1 st2167 tl (nI 1)) = (nI (hE s1)) from ct_ (by omega)) ?_
            refine lv_iload_n hx hb dL_writes_251 rfl (lv_at hl 5 rfl) ?_
            refine r_icmp_ne (tgt := 323) hx hb (nI_tI (by omega)) (nI_tI (by omega)) dL_writes_252 (by decide) (fun c252 => False.elim (by omega)) (fun c252 => ?_)
            refine lv_aload_n hx hb dL_writes_255 rfl (lv_at hl 7 rfl) ?_
            refine lv_iload_n hx hb dL_writes_256 rfl (lv_at hl 5 rfl) ?_
            refine lv_iconst (v := (nI 4)) hx hb dL_writes_257 (by decide) ?_
            refine call_w (wr := [(xt, .inr (6, [.ref xtc, .int (nI tl)])), (xtc, .inl (tq.1, 100, .inl tx)), (xh, .inr (0, [.ref xhc, .int (nI st2167), .int (nI nx2167)])), (xhc, .inl (tq.1, 7365, .inl hc2167))]) (va_runV (As := [.int (nI (nE s)), .int (nI 4)]) (rest := []) ⟨hx, hb, hml, hown, hts⟩ (kX7_entry ln dg tq (x0 := x0) (xl := xl) (xh := xh) (xt := xt) (xp := xp) (xo := xo) (xu := xu) (xw := xw) (xlc := xlc) (c := cw167) (s := s1) (hF := hF1) (xus := xus) (uf := uf2167) (x := (nI (nE s))) (w := (nI 4)) H.size) (cwV 2 hts gL_writes_X7_entry rfl rfl rfl hdX7_entry ⟨Nat.le_of_ble_eq_true rfl, Nat.le_of_ble_eq_true rfl⟩) (preVB hK hN hP hD [2, 3, 4, 7, 8] rfl rfl rfl 2 rfl rfl [.int (nI (nE s)), .int (nI 4)]) rfl rfl hl.1 rfl (lv_room (Nat.le_of_ble_eq_true rfl)) dL_writes_258 ⟨Nat.le_refl _, Nat.le_refl _⟩) hP hD hS hA [2, 3, 4, 7, 8] [0, 1, 5, 6] rfl rfl (by decide) (by decide) (fun r258 u258 H locs hw258 hP hD hS => ?_)
            obtain ⟨uf2258, rfl⟩ : ∃ z, z = u258 := ⟨_, rfl⟩
            have hP : va_P dg vwCl [(xt, .inr (6, [.ref xtc, .int (nI tl)])), (xtc, .inl (tq.1, 100, .inl tx)), (xh, .inr (0, [.ref xhc, .int (nI st2167), .int (nI nx2167)])), (xhc, .inl (tq.1, 7365, .inl hc2167)), (x0, .inr (7, [.ref xl, .ref xh, .ref xt, .ref xp, .ref xo, .ref xu, .ref xw])), (xl, .inr (1, [.ref xlc])), (xlc, .inl (tq.1, 1473, .inl cw167)), (xu, .inr (5, [.ref xus])), (xus, .inl (tq.1, 6, .inl uf2258))] H := hP
            have hD : va_D AA [(xt, .inr (6, [.ref xtc, .int (nI tl)])), (xtc, .inl (tq.1, 100, .inl tx)), (xh, .inr (0, [.ref xhc, .int (nI st2167), .int (nI nx2167)])), (xhc, .inl (tq.1, 7365, .inl hc2167)), (x0, .inr (7, [.ref xl, .ref xh, .ref xt, .ref xp, .ref xo, .ref xu, .ref xw])), (xl, .inr (1, [.ref xlc])), (xlc, .inl (tq.1, 1473, .inl cw167)), (xu, .inr (5, [.ref xus])), (xus, .inl (tq.1, 6, .inl uf2258))] := hD
            subst hw258
            refine r_top (show (etR s1 (nI (nE s)) (nI 4)) = (me s1 (nE s) 0) from (et_ (by omega) (by omega) (by omega))) ?_
            refine r_top (show (me s1 (nE s) 0) = (nI (hE s)) from q5) ?_
            refine lv_iload hx hb dL_writes_261 (lv_at hl 4 rfl) ?_
            refine r_icmp_ne (tgt := 323) hx hb (nI_tI (by omega)) (nI_tI (by omega)) dL_writes_263 (by decide) (fun c263 => False.elim (by omega)) (fun c263 => ?_)
            refine lv_aload_n hx hb dL_writes_266 rfl (lv_at hl 7 rfl) ?_
            refine lv_iload_n hx hb dL_writes_267 rfl (lv_at hl 5 rfl) ?_
            refine lv_bipush (v := (nI 6)) hx hb dL_writes_268 (by decide) ?_
            refine call_w (wr := [(xt, .inr (6, [.ref xtc, .int (nI tl)])), (xtc, .inl (tq.1, 100, .inl tx)), (xh, .inr (0, [.ref xhc, .int (nI st2167), .int (nI nx2167)])), (xhc, .inl (tq.1, 7365, .inl hc2167))]) (va_runV (As := [.int (nI (nE s)), .int (nI 6)]) (rest := []) ⟨hx, hb, hml, hown, hts⟩ (kX7_entry ln dg tq (x0 := x0) (xl := xl) (xh := xh) (xt := xt) (xp := xp) (xo := xo) (xu := xu) (xw := xw) (xlc := xlc) (c := cw167) (s := s1) (hF := hF1) (xus := xus) (uf := uf2258) (x := (nI (nE s))) (w := (nI 6)) H.size) (cwV 2 hts gL_writes_X7_entry rfl rfl rfl hdX7_entry ⟨Nat.le_of_ble_eq_true rfl, Nat.le_of_ble_eq_true rfl⟩) (preVB hK hN hP hD [4, 5, 6, 7, 8] rfl rfl rfl 4 rfl rfl [.int (nI (nE s)), .int (nI 6)]) rfl rfl hl.1 rfl (lv_room (Nat.le_of_ble_eq_true rfl)) dL_writes_270 ⟨Nat.le_refl _, Nat.le_refl _⟩) hP hD hS hA [4, 5, 6, 7, 8] [0, 1, 2, 3] rfl rfl (by decide) (by decide) (fun r270 u270 H locs hw270 hP hD hS => ?_)
            obtain ⟨uf2270, rfl⟩ : ∃ z, z = u270 := ⟨_, rfl⟩
            have hP : va_P dg vwCl [(xt, .inr (6, [.ref xtc, .int (nI tl)])), (xtc, .inl (tq.1, 100, .inl tx)), (xh, .inr (0, [.ref xhc, .int (nI st2167), .int (nI nx2167)])), (xhc, .inl (tq.1, 7365, .inl hc2167)), (x0, .inr (7, [.ref xl, .ref xh, .ref xt, .ref xp, .ref xo, .ref xu, .ref xw])), (xl, .inr (1, [.ref xlc])), (xlc, .inl (tq.1, 1473, .inl cw167)), (xu, .inr (5, [.ref xus])), (xus, .inl (tq.1, 6, .inl uf2270))] H := hP
            have hD : va_D AA [(xt, .inr (6, [.ref xtc, .int (nI tl)])), (xtc, .inl (tq.1, 100, .inl tx)), (xh, .inr (0, [.ref xhc, .int (nI st2167), .int (nI nx2167)])), (xhc, .inl (tq.1, 7365, .inl hc2167)), (x0, .inr (7, [.ref xl, .ref xh, .ref xt, .ref xp, .ref xo, .ref xu, .ref xw])), (xl, .inr (1, [.ref xlc])), (xlc, .inl (tq.1, 1473, .inl cw167)), (xu, .inr (5, [.ref xus])), (xus, .inl (tq.1, 6, .inl uf2270))] := hD
            subst hw270
            refine r_top (show (etR s1 (nI (nE s)) (nI 6)) = (nI 1) from (et_ (by omega) (by omega) (by omega)).trans (et6 q6)) ?_
            refine lv_iconst (v := (nI 1)) hx hb dL_writes_273 (by decide) ?_
            refine r_icmp_ne (tgt := 323) hx hb (nI_tI (by omega)) (nI_tI (by omega)) dL_writes_274 (by decide) (fun c274 => False.elim (by omega)) (fun c274 => ?_)
            refine lv_aload_n hx hb dL_writes_277 rfl (lv_at hl 7 rfl) ?_
            refine lv_iload_n hx hb dL_writes_278 rfl (lv_at hl 5 rfl) ?_
            refine lv_bipush (v := (nI 8)) hx hb dL_writes_279 (by decide) ?_
            refine call_w (wr := [(xt, .inr (6, [.ref xtc, .int (nI tl)])), (xtc, .inl (tq.1, 100, .inl tx)), (xh, .inr (0, [.ref xhc, .int (nI st2167), .int (nI nx2167)])), (xhc, .inl (tq.1, 7365, .inl hc2167))]) (va_runV (As := [.int (nI (nE s)), .int (nI 8)]) (rest := []) ⟨hx, hb, hml, hown, hts⟩ (kX7_entry ln dg tq (x0 := x0) (xl := xl) (xh := xh) (xt := xt) (xp := xp) (xo := xo) (xu := xu) (xw := xw) (xlc := xlc) (c := cw167) (s := s1) (hF := hF1) (xus := xus) (uf := uf2270) (x := (nI (nE s))) (w := (nI 8)) H.size) (cwV 2 hts gL_writes_X7_entry rfl rfl rfl hdX7_entry ⟨Nat.le_of_ble_eq_true rfl, Nat.le_of_ble_eq_true rfl⟩) (preVB hK hN hP hD [4, 5, 6, 7, 8] rfl rfl rfl 4 rfl rfl [.int (nI (nE s)), .int (nI 8)]) rfl rfl hl.1 rfl (lv_room (Nat.le_of_ble_eq_true rfl)) dL_writes_281 ⟨Nat.le_refl _, Nat.le_refl _⟩) hP hD hS hA [4, 5, 6, 7, 8] [0, 1, 2, 3] rfl rfl (by decide) (by decide) (fun r281 u281 H locs hw281 hP hD hS => ?_)
            obtain ⟨uf2281, rfl⟩ : ∃ z, z = u281 := ⟨_, rfl⟩
            have hP : va_P dg vwCl [(xt, .inr (6, [.ref xtc, .int (nI tl)])), (xtc, .inl (tq.1, 100, .inl tx)), (xh, .inr (0, [.ref xhc, .int (nI st2167), .int (nI nx2167)])), (xhc, .inl (tq.1, 7365, .inl hc2167)), (x0, .inr (7, [.ref xl, .ref xh, .ref xt, .ref xp, .ref xo, .ref xu, .ref xw])), (xl, .inr (1, [.ref xlc])), (xlc, .inl (tq.1, 1473, .inl cw167)), (xu, .inr (5, [.ref xus])), (xus, .inl (tq.1, 6, .inl uf2281))] H := hP
            have hD : va_D AA [(xt, .inr (6, [.ref xtc, .int (nI tl)])), (xtc, .inl (tq.1, 100, .inl tx)), (xh, .inr (0, [.ref xhc, .int (nI st2167), .int (nI nx2167)])), (xhc, .inl (tq.1, 7365, .inl hc2167)), (x0, .inr (7, [.ref xl, .ref xh, .ref xt, .ref xp, .ref xo, .ref xu, .ref xw])), (xl, .inr (1, [.ref xlc])), (xlc, .inl (tq.1, 1473, .inl cw167)), (xu, .inr (5, [.ref xus])), (xus, .inl (tq.1, 6, .inl uf2281))] := hD
            subst hw281
            refine r_top (show (etR s1 (nI (nE s)) (nI 8)) = (me s1 (nE s) 6) from (et_ (by omega) (by omega) (by omega))) ?_
            refine r_top (show (me s1 (nE s) 6) = (-100009) from q7) ?_
            refine lv_ldc hx hb hown k19 dL_writes_284 ?_
            refine r_icmp_ne (tgt := 323) hx hb (by decide : ((-100009) : Int32).toInt = (-100009)) (by decide : ((-100009) : Int32).toInt = (-100009)) dL_writes_286 (by decide) (fun c286 => False.elim (by omega)) (fun c286 => ?_)
            refine lv_aload_n hx hb dL_writes_289 rfl (lv_at hl 7 rfl) ?_
            refine lv_iconst (v := (nI 3)) hx hb dL_writes_290 (by decide) ?_
            refine call_x (va_runV (As := [.int (nI 3)]) (rest := []) ⟨hx, hb, hml, hown, hts⟩ (kX7_count ln dg tq (x0 := x0) (xl := xl) (xh := xh) (xt := xt) (xp := xp) (xo := xo) (xu := xu) (xw := xw) (xlc := xlc) (c := cw167) (s := s1) (hF := hF1) (xhc := xhc) (st := st2167) (nx := nx2167) (hc := hc2167) (xtc := xtc) (tl := tl) (tx := tx) (x := (nI 3)) H.size) (cwV 1 hts gL_writes_X7_count rfl rfl rfl hdX7_count ⟨Nat.le_of_ble_eq_true rfl, Nat.le_of_ble_eq_true rfl⟩) (preVR hK hN hP [4, 5, 6, 2, 3, 0, 1] rfl 4 rfl rfl [.int (nI 3)]) rfl rfl hl.1 rfl (lv_room (Nat.le_of_ble_eq_true rfl)) dL_writes_291 ⟨Nat.le_refl _, Nat.le_refl _⟩) hP hS hA (fun H locs hP hS => ?_)
            refine r_top (show (ctR s1 st2167 tl (nI 3)) = (nI (nB s1)) from ct_ (by omega)) ?_
            refine r_if_eq (tgt := 319) hx hb (nI_tI (by omega)) dL_writes_294 (by decide) (fun c294 => False.elim (by omega)) (fun c294 => ?_)
            refine lv_aload_n hx hb dL_writes_297 rfl (lv_at hl 7 rfl) ?_
            refine lv_iconst (v := (nI 0)) hx hb dL_writes_298 (by decide) ?_
            refine lv_iconst (v := (nI 3)) hx hb dL_writes_299 (by decide) ?_
            refine call_x (va_runV (As := [.int (nI 0), .int (nI 3)]) (rest := []) ⟨hx, hb, hml, hown, hts⟩ (kX7_branch ln dg tq (x0 := x0) (xl := xl) (xh := xh) (xt := xt) (xp := xp) (xo := xo) (xu := xu) (xw := xw) (xlc := xlc) (c := cw167) (s := s1) (hF := hF1) (x := (nI 0)) (w := (nI 3)) H.size) (cwV 2 hts gL_writes_X7_branch rfl rfl rfl hdX7_branch ⟨Nat.le_of_ble_eq_true rfl, Nat.le_of_ble_eq_true rfl⟩) (preVR hK hN hP [4, 5, 6] rfl 4 rfl rfl [.int (nI 0), .int (nI 3)]) rfl rfl hl.1 rfl (lv_room (Nat.le_of_ble_eq_true rfl)) dL_writes_300 ⟨Nat.le_refl _, Nat.le_refl _⟩) hP hS hA (fun H locs hP hS => ?_)
            refine r_top (show (brR s1 (nI 0) (nI 3)) = (mb s1 0 2) from (br_ (by omega) (by omega) (by omega))) ?_
            refine lv_iload hx hb dL_writes_303 (lv_at hl 3 rfl) ?_
            refine lv_iload hx hb dL_writes_305 (lv_at hl 2 rfl) ?_
            refine r_if_ne (tgt := 314) hx hb rfl dL_writes_307 (by decide) (fun c307 => ?_) (fun c307 => ?_)
            · skip
              refine lv_iconst (v := (nI 0)) hx hb dL_writes_314 (by decide) ?_
              refine lv_iadd hx hb dL_writes_315 ?_
              refine lv_icmp_ne (tgt := 323) hx hb dL_writes_316 (by decide) (fun c316 => False.elim (by rw [q8 (by omega), if_neg (fun z => c307 ((st_wait (show 0 < nB s by omega) q2).mpr z))] at c316; exact c316 (Int32.add_zero _).symm)) (fun c316 => ?_)
              refine lv_iconst (v := (nI 1)) hx hb dL_writes_319 (by decide) ?_
              refine lv_goto (tgt := 324) hx hb dL_writes_320 (by decide) ?_
              exact hret (nI 1) (cw167, hc2167, st2167, nx2167, uf2281) H locs _ ls (show (nI 1) = (nI 1) ∧ (∃ s2, LX s2 cw167 st2167 nx2167) from (⟨rfl, s1, hL1⟩)) rfl (hP.sub [4, 5, 6, 2, 3, 0, 1, 7, 8] rfl) (hD.sub [4, 5, 6, 2, 3, 0, 1, 7, 8] (by decide) rfl) hS dL_writes_324
            · skip
              refine lv_iconst (v := (nI 1)) hx hb dL_writes_310 (by decide) ?_
              refine lv_goto (tgt := 315) hx hb dL_writes_311 (by decide) ?_
              refine lv_iadd hx hb dL_writes_315 ?_
              refine lv_icmp_ne (tgt := 323) hx hb dL_writes_316 (by decide) (fun c316 => False.elim (by rw [q8 (by omega), if_pos ((st_wait (show 0 < nB s by omega) q2).mp c307)] at c316; exact c316 rfl)) (fun c316 => ?_)
              refine lv_iconst (v := (nI 1)) hx hb dL_writes_319 (by decide) ?_
              refine lv_goto (tgt := 324) hx hb dL_writes_320 (by decide) ?_
              exact hret (nI 1) (cw167, hc2167, st2167, nx2167, uf2281) H locs _ ls (show (nI 1) = (nI 1) ∧ (∃ s2, LX s2 cw167 st2167 nx2167) from (⟨rfl, s1, hL1⟩)) rfl (hP.sub [4, 5, 6, 2, 3, 0, 1, 7, 8] rfl) (hD.sub [4, 5, 6, 2, 3, 0, 1, 7, 8] (by decide) rfl) hS dL_writes_324
          · skip
            obtain ⟨hne, hpl, hca⟩ := hneg c174
            refine lv_iload_n hx hb dL_writes_177 rfl (lv_at hl 6 rfl) ?_
            refine r_if_gt (tgt := 202) hx hb (nI_tI (by omega)) dL_writes_178 (by decide) (fun c178 => ?_) (fun c178 => ?_)
            · skip
              refine lv_aload_n hx hb dL_writes_202 rfl (lv_at hl 7 rfl) ?_
              refine lv_iconst (v := (nI 0)) hx hb dL_writes_203 (by decide) ?_
              refine call_x (va_runV (As := [.int (nI 0)]) (rest := []) ⟨hx, hb, hml, hown, hts⟩ (kX7_count ln dg tq (x0 := x0) (xl := xl) (xh := xh) (xt := xt) (xp := xp) (xo := xo) (xu := xu) (xw := xw) (xlc := xlc) (c := cw167) (s := s1) (hF := hF1) (xhc := xhc) (st := st2167) (nx := nx2167) (hc := hc2167) (xtc := xtc) (tl := tl) (tx := tx) (x := (nI 0)) H.size) (cwV 1 hts gL_writes_X7_count rfl rfl rfl hdX7_count ⟨Nat.le_of_ble_eq_true rfl, Nat.le_of_ble_eq_true rfl⟩) (preVR hK hN hP [2, 3, 4, 5, 6, 0, 1] rfl 2 rfl rfl [.int (nI 0)]) rfl rfl hl.1 rfl (lv_room (Nat.le_of_ble_eq_true rfl)) dL_writes_204 ⟨Nat.le_refl _, Nat.le_refl _⟩) hP hS hA (fun H locs hP hS => ?_)
              refine r_top (show (ctR s1 st2167 tl (nI 0)) = (nI (nE s1)) from ct_ (by omega)) ?_
              refine lv_iload_n hx hb dL_writes_207 rfl (lv_at hl 5 rfl) ?_
              refine r_icmp_ne (tgt := 234) hx hb (nI_tI (by omega)) (nI_tI (by omega)) dL_writes_208 (by decide) (fun c208 => False.elim (by omega)) (fun c208 => ?_)
              refine lv_aload_n hx hb dL_writes_211 rfl (lv_at hl 7 rfl) ?_
              refine lv_iconst (v := (nI 3)) hx hb dL_writes_212 (by decide) ?_
              refine call_x (va_runV (As := [.int (nI 3)]) (rest := []) ⟨hx, hb, hml, hown, hts⟩ (kX7_count ln dg tq (x0 := x0) (xl := xl) (xh := xh) (xt := xt) (xp := xp) (xo := xo) (xu := xu) (xw := xw) (xlc := xlc) (c := cw167) (s := s1) (hF := hF1) (xhc := xhc) (st := st2167) (nx := nx2167) (hc := hc2167) (xtc := xtc) (tl := tl) (tx := tx) (x := (nI 3)) H.size) (cwV 1 hts gL_writes_X7_count rfl rfl rfl hdX7_count ⟨Nat.le_of_ble_eq_true rfl, Nat.le_of_ble_eq_true rfl⟩) (preVR hK hN hP [2, 3, 4, 5, 6, 0, 1] rfl 2 rfl rfl [.int (nI 3)]) rfl rfl hl.1 rfl (lv_room (Nat.le_of_ble_eq_true rfl)) dL_writes_213 ⟨Nat.le_refl _, Nat.le_refl _⟩) hP hS hA (fun H locs hP hS => ?_)
              refine r_top (show (ctR s1 st2167 tl (nI 3)) = (nI (nB s1)) from ct_ (by omega)) ?_
              refine r_if_eq (tgt := 230) hx hb (nI_tI (by omega)) dL_writes_216 (by decide) (fun c216 => False.elim (by omega)) (fun c216 => ?_)
              refine lv_aload_n hx hb dL_writes_219 rfl (lv_at hl 7 rfl) ?_
              refine lv_iconst (v := (nI 0)) hx hb dL_writes_220 (by decide) ?_
              refine lv_iconst (v := (nI 3)) hx hb dL_writes_221 (by decide) ?_
              refine call_x (va_runV (As := [.int (nI 0), .int (nI 3)]) (rest := []) ⟨hx, hb, hml, hown, hts⟩ (kX7_branch ln dg tq (x0 := x0) (xl := xl) (xh := xh) (xt := xt) (xp := xp) (xo := xo) (xu := xu) (xw := xw) (xlc := xlc) (c := cw167) (s := s1) (hF := hF1) (x := (nI 0)) (w := (nI 3)) H.size) (cwV 2 hts gL_writes_X7_branch rfl rfl rfl hdX7_branch ⟨Nat.le_of_ble_eq_true rfl, Nat.le_of_ble_eq_true rfl⟩) (preVR hK hN hP [2, 3, 4] rfl 2 rfl rfl [.int (nI 0), .int (nI 3)]) rfl rfl hl.1 rfl (lv_room (Nat.le_of_ble_eq_true rfl)) dL_writes_222 ⟨Nat.le_refl _, Nat.le_refl _⟩) hP hS hA (fun H locs hP hS => ?_)
              refine r_top (show (brR s1 (nI 0) (nI 3)) = (mb s1 0 2) from (br_ (by omega) (by omega) (by omega))) ?_
              refine lv_iload hx hb dL_writes_225 (lv_at hl 3 rfl) ?_
              refine lv_icmp_ne (tgt := 234) hx hb dL_writes_227 (by decide) (fun c227 => False.elim (by exact c227 hpl)) (fun c227 => ?_)
              refine lv_iconst (v := (nI 1)) hx hb dL_writes_230 (by decide) ?_
              refine lv_goto (tgt := 235) hx hb dL_writes_231 (by decide) ?_
              exact hret (nI 1) (cw167, hc2167, st2167, nx2167, uf2167) H locs _ ls (show (nI 1) = (nI 1) ∧ (∃ s2, LX s2 cw167 st2167 nx2167) from (⟨rfl, s1, hL1⟩)) rfl (hP.sub [2, 3, 4, 5, 6, 0, 1, 7, 8] rfl) (hD.sub [2, 3, 4, 5, 6, 0, 1, 7, 8] (by decide) rfl) hS dL_writes_235
            · skip
              refine lv_iload_n hx hb dL_writes_181 rfl (lv_at hl 5 rfl) ?_
              refine lv_bipush (v := (nI 60)) hx hb dL_writes_182 (by decide) ?_
              refine r_icmp_ne (tgt := 190) hx hb (nI_tI (by omega)) (nI_tI (by omega)) dL_writes_184 (by decide) (fun c184 => ?_) (fun c184 => ?_)
              · skip
                refine lv_iload hx hb dL_writes_190 (lv_at hl 1 rfl) ?_
                refine lv_iconst (v := (nI 1)) hx hb dL_writes_192 (by decide) ?_
                refine r_icmp_eq (tgt := 202) hx hb (nI_tI (by omega)) (nI_tI (by omega)) dL_writes_193 (by decide) (fun c193 => ?_) (fun c193 => ?_)
                · skip
                  refine lv_aload_n hx hb dL_writes_202 rfl (lv_at hl 7 rfl) ?_
                  refine lv_iconst (v := (nI 0)) hx hb dL_writes_203 (by decide) ?_
                  refine call_x (va_runV (As := [.int (nI 0)]) (rest := []) ⟨hx, hb, hml, hown, hts⟩ (kX7_count ln dg tq (x0 := x0) (xl := xl) (xh := xh) (xt := xt) (xp := xp) (xo := xo) (xu := xu) (xw := xw) (xlc := xlc) (c := cw167) (s := s1) (hF := hF1) (xhc := xhc) (st := st2167) (nx := nx2167) (hc := hc2167) (xtc := xtc) (tl := tl) (tx := tx) (x := (nI 0)) H.size) (cwV 1 hts gL_writes_X7_count rfl rfl rfl hdX7_count ⟨Nat.le_of_ble_eq_true rfl, Nat.le_of_ble_eq_true rfl⟩) (preVR hK hN hP [2, 3, 4, 5, 6, 0, 1] rfl 2 rfl rfl [.int (nI 0)]) rfl rfl hl.1 rfl (lv_room (Nat.le_of_ble_eq_true rfl)) dL_writes_204 ⟨Nat.le_refl _, Nat.le_refl _⟩) hP hS hA (fun H locs hP hS => ?_)
                  refine r_top (show (ctR s1 st2167 tl (nI 0)) = (nI (nE s1)) from ct_ (by omega)) ?_
                  refine lv_iload_n hx hb dL_writes_207 rfl (lv_at hl 5 rfl) ?_
                  refine r_icmp_ne (tgt := 234) hx hb (nI_tI (by omega)) (nI_tI (by omega)) dL_writes_208 (by decide) (fun c208 => False.elim (by omega)) (fun c208 => ?_)
                  refine lv_aload_n hx hb dL_writes_211 rfl (lv_at hl 7 rfl) ?_
                  refine lv_iconst (v := (nI 3)) hx hb dL_writes_212 (by decide) ?_
                  refine call_x (va_runV (As := [.int (nI 3)]) (rest := []) ⟨hx, hb, hml, hown, hts⟩ (kX7_count ln dg tq (x0 := x0) (xl := xl) (xh := xh) (xt := xt) (xp := xp) (xo := xo) (xu := xu) (xw := xw) (xlc := xlc) (c := cw167) (s := s1) (hF := hF1) (xhc := xhc) (st := st2167) (nx := nx2167) (hc := hc2167) (xtc := xtc) (tl := tl) (tx := tx) (x := (nI 3)) H.size) (cwV 1 hts gL_writes_X7_count rfl rfl rfl hdX7_count ⟨Nat.le_of_ble_eq_true rfl, Nat.le_of_ble_eq_true rfl⟩) (preVR hK hN hP [2, 3, 4, 5, 6, 0, 1] rfl 2 rfl rfl [.int (nI 3)]) rfl rfl hl.1 rfl (lv_room (Nat.le_of_ble_eq_true rfl)) dL_writes_213 ⟨Nat.le_refl _, Nat.le_refl _⟩) hP hS hA (fun H locs hP hS => ?_)
                  refine r_top (show (ctR s1 st2167 tl (nI 3)) = (nI (nB s1)) from ct_ (by omega)) ?_
                  refine r_if_eq (tgt := 230) hx hb (nI_tI (by omega)) dL_writes_216 (by decide) (fun c216 => False.elim (by omega)) (fun c216 => ?_)
                  refine lv_aload_n hx hb dL_writes_219 rfl (lv_at hl 7 rfl) ?_
                  refine lv_iconst (v := (nI 0)) hx hb dL_writes_220 (by decide) ?_
                  refine lv_iconst (v := (nI 3)) hx hb dL_writes_221 (by decide) ?_
                  refine call_x (va_runV (As := [.int (nI 0), .int (nI 3)]) (rest := []) ⟨hx, hb, hml, hown, hts⟩ (kX7_branch ln dg tq (x0 := x0) (xl := xl) (xh := xh) (xt := xt) (xp := xp) (xo := xo) (xu := xu) (xw := xw) (xlc := xlc) (c := cw167) (s := s1) (hF := hF1) (x := (nI 0)) (w := (nI 3)) H.size) (cwV 2 hts gL_writes_X7_branch rfl rfl rfl hdX7_branch ⟨Nat.le_of_ble_eq_true rfl, Nat.le_of_ble_eq_true rfl⟩) (preVR hK hN hP [2, 3, 4] rfl 2 rfl rfl [.int (nI 0), .int (nI 3)]) rfl rfl hl.1 rfl (lv_room (Nat.le_of_ble_eq_true rfl)) dL_writes_222 ⟨Nat.le_refl _, Nat.le_refl _⟩) hP hS hA (fun H locs hP hS => ?_)
                  refine r_top (show (brR s1 (nI 0) (nI 3)) = (mb s1 0 2) from (br_ (by omega) (by omega) (by omega))) ?_
                  refine lv_iload hx hb dL_writes_225 (lv_at hl 3 rfl) ?_
                  refine lv_icmp_ne (tgt := 234) hx hb dL_writes_227 (by decide) (fun c227 => False.elim (by exact c227 hpl)) (fun c227 => ?_)
                  refine lv_iconst (v := (nI 1)) hx hb dL_writes_230 (by decide) ?_
                  refine lv_goto (tgt := 235) hx hb dL_writes_231 (by decide) ?_
                  exact hret (nI 1) (cw167, hc2167, st2167, nx2167, uf2167) H locs _ ls (show (nI 1) = (nI 1) ∧ (∃ s2, LX s2 cw167 st2167 nx2167) from (⟨rfl, s1, hL1⟩)) rfl (hP.sub [2, 3, 4, 5, 6, 0, 1, 7, 8] rfl) (hD.sub [2, 3, 4, 5, 6, 0, 1, 7, 8] (by decide) rfl) hS dL_writes_235
                · skip
                  refine lv_iload hx hb dL_writes_196 (lv_at hl 1 rfl) ?_
                  refine lv_iconst (v := (nI 3)) hx hb dL_writes_198 (by decide) ?_
                  refine r_icmp_ne (tgt := 234) hx hb (nI_tI (by omega)) (nI_tI (by omega)) dL_writes_199 (by decide) (fun c199 => False.elim (by omega)) (fun c199 => ?_)
                  refine lv_aload_n hx hb dL_writes_202 rfl (lv_at hl 7 rfl) ?_
                  refine lv_iconst (v := (nI 0)) hx hb dL_writes_203 (by decide) ?_
                  refine call_x (va_runV (As := [.int (nI 0)]) (rest := []) ⟨hx, hb, hml, hown, hts⟩ (kX7_count ln dg tq (x0 := x0) (xl := xl) (xh := xh) (xt := xt) (xp := xp) (xo := xo) (xu := xu) (xw := xw) (xlc := xlc) (c := cw167) (s := s1) (hF := hF1) (xhc := xhc) (st := st2167) (nx := nx2167) (hc := hc2167) (xtc := xtc) (tl := tl) (tx := tx) (x := (nI 0)) H.size) (cwV 1 hts gL_writes_X7_count rfl rfl rfl hdX7_count ⟨Nat.le_of_ble_eq_true rfl, Nat.le_of_ble_eq_true rfl⟩) (preVR hK hN hP [2, 3, 4, 5, 6, 0, 1] rfl 2 rfl rfl [.int (nI 0)]) rfl rfl hl.1 rfl (lv_room (Nat.le_of_ble_eq_true rfl)) dL_writes_204 ⟨Nat.le_refl _, Nat.le_refl _⟩) hP hS hA (fun H locs hP hS => ?_)
                  refine r_top (show (ctR s1 st2167 tl (nI 0)) = (nI (nE s1)) from ct_ (by omega)) ?_
                  refine lv_iload_n hx hb dL_writes_207 rfl (lv_at hl 5 rfl) ?_
                  refine r_icmp_ne (tgt := 234) hx hb (nI_tI (by omega)) (nI_tI (by omega)) dL_writes_208 (by decide) (fun c208 => False.elim (by omega)) (fun c208 => ?_)
                  refine lv_aload_n hx hb dL_writes_211 rfl (lv_at hl 7 rfl) ?_
                  refine lv_iconst (v := (nI 3)) hx hb dL_writes_212 (by decide) ?_
                  refine call_x (va_runV (As := [.int (nI 3)]) (rest := []) ⟨hx, hb, hml, hown, hts⟩ (kX7_count ln dg tq (x0 := x0) (xl := xl) (xh := xh) (xt := xt) (xp := xp) (xo := xo) (xu := xu) (xw := xw) (xlc := xlc) (c := cw167) (s := s1) (hF := hF1) (xhc := xhc) (st := st2167) (nx := nx2167) (hc := hc2167) (xtc := xtc) (tl := tl) (tx := tx) (x := (nI 3)) H.size) (cwV 1 hts gL_writes_X7_count rfl rfl rfl hdX7_count ⟨Nat.le_of_ble_eq_true rfl, Nat.le_of_ble_eq_true rfl⟩) (preVR hK hN hP [2, 3, 4, 5, 6, 0, 1] rfl 2 rfl rfl [.int (nI 3)]) rfl rfl hl.1 rfl (lv_room (Nat.le_of_ble_eq_true rfl)) dL_writes_213 ⟨Nat.le_refl _, Nat.le_refl _⟩) hP hS hA (fun H locs hP hS => ?_)
                  refine r_top (show (ctR s1 st2167 tl (nI 3)) = (nI (nB s1)) from ct_ (by omega)) ?_
                  refine r_if_eq (tgt := 230) hx hb (nI_tI (by omega)) dL_writes_216 (by decide) (fun c216 => False.elim (by omega)) (fun c216 => ?_)
                  refine lv_aload_n hx hb dL_writes_219 rfl (lv_at hl 7 rfl) ?_
                  refine lv_iconst (v := (nI 0)) hx hb dL_writes_220 (by decide) ?_
                  refine lv_iconst (v := (nI 3)) hx hb dL_writes_221 (by decide) ?_
                  refine call_x (va_runV (As := [.int (nI 0), .int (nI 3)]) (rest := []) ⟨hx, hb, hml, hown, hts⟩ (kX7_branch ln dg tq (x0 := x0) (xl := xl) (xh := xh) (xt := xt) (xp := xp) (xo := xo) (xu := xu) (xw := xw) (xlc := xlc) (c := cw167) (s := s1) (hF := hF1) (x := (nI 0)) (w := (nI 3)) H.size) (cwV 2 hts gL_writes_X7_branch rfl rfl rfl hdX7_branch ⟨Nat.le_of_ble_eq_true rfl, Nat.le_of_ble_eq_true rfl⟩) (preVR hK hN hP [2, 3, 4] rfl 2 rfl rfl [.int (nI 0), .int (nI 3)]) rfl rfl hl.1 rfl (lv_room (Nat.le_of_ble_eq_true rfl)) dL_writes_222 ⟨Nat.le_refl _, Nat.le_refl _⟩) hP hS hA (fun H locs hP hS => ?_)
                  refine r_top (show (brR s1 (nI 0) (nI 3)) = (mb s1 0 2) from (br_ (by omega) (by omega) (by omega))) ?_
                  refine lv_iload hx hb dL_writes_225 (lv_at hl 3 rfl) ?_
                  refine lv_icmp_ne (tgt := 234) hx hb dL_writes_227 (by decide) (fun c227 => False.elim (by exact c227 hpl)) (fun c227 => ?_)
                  refine lv_iconst (v := (nI 1)) hx hb dL_writes_230 (by decide) ?_
                  refine lv_goto (tgt := 235) hx hb dL_writes_231 (by decide) ?_
                  exact hret (nI 1) (cw167, hc2167, st2167, nx2167, uf2167) H locs _ ls (show (nI 1) = (nI 1) ∧ (∃ s2, LX s2 cw167 st2167 nx2167) from (⟨rfl, s1, hL1⟩)) rfl (hP.sub [2, 3, 4, 5, 6, 0, 1, 7, 8] rfl) (hD.sub [2, 3, 4, 5, 6, 0, 1, 7, 8] (by decide) rfl) hS dL_writes_235
              · skip
                refine lv_goto (tgt := 202) hx hb dL_writes_187 (by decide) ?_
                refine lv_aload_n hx hb dL_writes_202 rfl (lv_at hl 7 rfl) ?_
                refine lv_iconst (v := (nI 0)) hx hb dL_writes_203 (by decide) ?_
                refine call_x (va_runV (As := [.int (nI 0)]) (rest := []) ⟨hx, hb, hml, hown, hts⟩ (kX7_count ln dg tq (x0 := x0) (xl := xl) (xh := xh) (xt := xt) (xp := xp) (xo := xo) (xu := xu) (xw := xw) (xlc := xlc) (c := cw167) (s := s1) (hF := hF1) (xhc := xhc) (st := st2167) (nx := nx2167) (hc := hc2167) (xtc := xtc) (tl := tl) (tx := tx) (x := (nI 0)) H.size) (cwV 1 hts gL_writes_X7_count rfl rfl rfl hdX7_count ⟨Nat.le_of_ble_eq_true rfl, Nat.le_of_ble_eq_true rfl⟩) (preVR hK hN hP [2, 3, 4, 5, 6, 0, 1] rfl 2 rfl rfl [.int (nI 0)]) rfl rfl hl.1 rfl (lv_room (Nat.le_of_ble_eq_true rfl)) dL_writes_204 ⟨Nat.le_refl _, Nat.le_refl _⟩) hP hS hA (fun H locs hP hS => ?_)
                refine r_top (show (ctR s1 st2167 tl (nI 0)) = (nI (nE s1)) from ct_ (by omega)) ?_
                refine lv_iload_n hx hb dL_writes_207 rfl (lv_at hl 5 rfl) ?_
                refine r_icmp_ne (tgt := 234) hx hb (nI_tI (by omega)) (nI_tI (by omega)) dL_writes_208 (by decide) (fun c208 => False.elim (by omega)) (fun c208 => ?_)
                refine lv_aload_n hx hb dL_writes_211 rfl (lv_at hl 7 rfl) ?_
                refine lv_iconst (v := (nI 3)) hx hb dL_writes_212 (by decide) ?_
                refine call_x (va_runV (As := [.int (nI 3)]) (rest := []) ⟨hx, hb, hml, hown, hts⟩ (kX7_count ln dg tq (x0 := x0) (xl := xl) (xh := xh) (xt := xt) (xp := xp) (xo := xo) (xu := xu) (xw := xw) (xlc := xlc) (c := cw167) (s := s1) (hF := hF1) (xhc := xhc) (st := st2167) (nx := nx2167) (hc := hc2167) (xtc := xtc) (tl := tl) (tx := tx) (x := (nI 3)) H.size) (cwV 1 hts gL_writes_X7_count rfl rfl rfl hdX7_count ⟨Nat.le_of_ble_eq_true rfl, Nat.le_of_ble_eq_true rfl⟩) (preVR hK hN hP [2, 3, 4, 5, 6, 0, 1] rfl 2 rfl rfl [.int (nI 3)]) rfl rfl hl.1 rfl (lv_room (Nat.le_of_ble_eq_true rfl)) dL_writes_213 ⟨Nat.le_refl _, Nat.le_refl _⟩) hP hS hA (fun H locs hP hS => ?_)
                refine r_top (show (ctR s1 st2167 tl (nI 3)) = (nI (nB s1)) from ct_ (by omega)) ?_
                refine r_if_eq (tgt := 230) hx hb (nI_tI (by omega)) dL_writes_216 (by decide) (fun c216 => False.elim (by omega)) (fun c216 => ?_)
                refine lv_aload_n hx hb dL_writes_219 rfl (lv_at hl 7 rfl) ?_
                refine lv_iconst (v := (nI 0)) hx hb dL_writes_220 (by decide) ?_
                refine lv_iconst (v := (nI 3)) hx hb dL_writes_221 (by decide) ?_
                refine call_x (va_runV (As := [.int (nI 0), .int (nI 3)]) (rest := []) ⟨hx, hb, hml, hown, hts⟩ (kX7_branch ln dg tq (x0 := x0) (xl := xl) (xh := xh) (xt := xt) (xp := xp) (xo := xo) (xu := xu) (xw := xw) (xlc := xlc) (c := cw167) (s := s1) (hF := hF1) (x := (nI 0)) (w := (nI 3)) H.size) (cwV 2 hts gL_writes_X7_branch rfl rfl rfl hdX7_branch ⟨Nat.le_of_ble_eq_true rfl, Nat.le_of_ble_eq_true rfl⟩) (preVR hK hN hP [2, 3, 4] rfl 2 rfl rfl [.int (nI 0), .int (nI 3)]) rfl rfl hl.1 rfl (lv_room (Nat.le_of_ble_eq_true rfl)) dL_writes_222 ⟨Nat.le_refl _, Nat.le_refl _⟩) hP hS hA (fun H locs hP hS => ?_)
                refine r_top (show (brR s1 (nI 0) (nI 3)) = (mb s1 0 2) from (br_ (by omega) (by omega) (by omega))) ?_
                refine lv_iload hx hb dL_writes_225 (lv_at hl 3 rfl) ?_
                refine lv_icmp_ne (tgt := 234) hx hb dL_writes_227 (by decide) (fun c227 => False.elim (by exact c227 hpl)) (fun c227 => ?_)
                refine lv_iconst (v := (nI 1)) hx hb dL_writes_230 (by decide) ?_
                refine lv_goto (tgt := 235) hx hb dL_writes_231 (by decide) ?_
                exact hret (nI 1) (cw167, hc2167, st2167, nx2167, uf2167) H locs _ ls (show (nI 1) = (nI 1) ∧ (∃ s2, LX s2 cw167 st2167 nx2167) from (⟨rfl, s1, hL1⟩)) rfl (hP.sub [2, 3, 4, 5, 6, 0, 1, 7, 8] rfl) (hD.sub [2, 3, 4, 5, 6, 0, 1, 7, 8] (by decide) rfl) hS dL_writes_235
        · skip
          refine lv_aload_n hx hb dL_writes_127 rfl (lv_at hl 6 rfl) ?_
          refine lv_iload_n hx hb dL_writes_128 rfl (lv_at hl 7 rfl) ?_
          refine lv_iconst (v := (nI 4)) hx hb dL_writes_129 (by decide) ?_
          refine r_idiv_n hx hb (by omega) (by omega) (by omega) dL_writes_130 ?_
          refine lv_sipush (v := (nI 1000)) hx hb dL_writes_131 (by decide) ?_
          refine r_irem_n hx hb (by omega) (by omega) (by omega) dL_writes_134 ?_
          refine call_w (wr := [(xt, .inr (6, [.ref xtc, .int (nI tl)])), (xtc, .inl (tq.1, 100, .inl tx))]) (va_runV (As := [.int (nI ((z / 4) % 1000))]) (rest := []) ⟨hx, hb, hml, hown, hts⟩ (kX7_note ln dg tq (x0 := x0) (xl := xl) (xh := xh) (xt := xt) (xp := xp) (xo := xo) (xu := xu) (xw := xw) (xlc := xlc) (c := c) (s := s) (hF := hF) (xhc := xhc) (st := st) (nx := nx) (hc := hc) (hst := (by omega)) (hnx := (by omega)) (xus := xus) (uf := uf) (am := (nI ((z / 4) % 1000))) H.size) (cwV 1 hts gL_writes_X7_note rfl rfl rfl hdX7_note ⟨Nat.le_of_ble_eq_true rfl, Nat.le_of_ble_eq_true rfl⟩) (preVB hK hN hP hD [0, 1, 2, 3, 4, 7, 8] rfl rfl rfl 0 rfl rfl [.int (nI ((z / 4) % 1000))]) rfl rfl hl.1 rfl (lv_room (Nat.le_of_ble_eq_true rfl)) dL_writes_135 ⟨Nat.le_refl _, Nat.le_refl _⟩) hP hD hS hA [0, 1, 2, 3, 4, 7, 8] [5, 6] rfl rfl (by decide) (by decide) (fun r135 u135 H locs hw135 hP hD hS => ?_)
          obtain ⟨cw135, hc2135, st2135, nx2135, uf2135⟩ := u135
          have hP : va_P dg vwCl [(xt, .inr (6, [.ref xtc, .int (nI tl)])), (xtc, .inl (tq.1, 100, .inl tx)), (x0, .inr (7, [.ref xl, .ref xh, .ref xt, .ref xp, .ref xo, .ref xu, .ref xw])), (xl, .inr (1, [.ref xlc])), (xlc, .inl (tq.1, 1473, .inl cw135)), (xh, .inr (0, [.ref xhc, .int (nI st2135), .int (nI nx2135)])), (xhc, .inl (tq.1, 7365, .inl hc2135)), (xu, .inr (5, [.ref xus])), (xus, .inl (tq.1, 6, .inl uf2135))] H := hP
          have hD : va_D AA [(xt, .inr (6, [.ref xtc, .int (nI tl)])), (xtc, .inl (tq.1, 100, .inl tx)), (x0, .inr (7, [.ref xl, .ref xh, .ref xt, .ref xp, .ref xo, .ref xu, .ref xw])), (xl, .inr (1, [.ref xlc])), (xlc, .inl (tq.1, 1473, .inl cw135)), (xh, .inr (0, [.ref xhc, .int (nI st2135), .int (nI nx2135)])), (xhc, .inl (tq.1, 7365, .inl hc2135)), (xu, .inr (5, [.ref xus])), (xus, .inl (tq.1, 6, .inl uf2135))] := hD
          obtain ⟨hr135, hw135⟩ := hw135
          subst hr135
          obtain ⟨tv_, htv_⟩ : ∃ x : Int32, x = ntR s (nI (z / 4 % 1000)) := ⟨_, rfl⟩
          obtain ⟨s1, hL1, hB1, hneg, hpos, -⟩ := A_nt hL (by omega) htv_ hw135
          obtain ⟨hF1, hX1, hst1, hnx1⟩ := id hL1
          obtain ⟨hR1, hW1, -, -⟩ := id hF1
          have hn601 := hW1.n60
          have hn11 := hW1.n1
          have hb101 := hW1.b10
          have hs81 := hW1.s8
          have hhn1 := hW1.hn
          refine r_top (show (ntR s (nI ((z / 4) % 1000))) = tv_ from htv_.symm) ?_
          refine lv_goto (tgt := 170) hx hb dL_writes_138 (by decide) ?_
          refine lv_istore (lv' := [(8, .int tv_), (7, .int (nI (z % 4))), (6, .int (brN s 0 4)), (5, .int (mb s 0 2)), (4, .int (nI (hE s))), (3, .int (nI (nE s))), (2, .int (nI (cntF (loudB s) (nB s)))), (0, .ref x0), (1, .int (nI z))]) hx hb dL_writes_170 hl (by decide) rfl (fun ls hl => ?_)
          refine lv_iload hx hb dL_writes_172 (lv_at hl 0 rfl) ?_
          refine r_if_ge (tgt := 236) hx hb rfl dL_writes_174 (by decide) (fun c174 => ?_) (fun c174 => ?_)
          · skip
            obtain ⟨q1, q2, q3, q4, q5, q6, q7, q8⟩ := hpos c174
            refine lv_iload_n hx hb dL_writes_236 rfl (lv_at hl 6 rfl) ?_
            refine r_if_ne (tgt := 323) hx hb (nI_tI (by omega)) dL_writes_237 (by decide) (fun c237 => False.elim (by omega)) (fun c237 => ?_)
            refine lv_iload hx hb dL_writes_240 (lv_at hl 0 rfl) ?_
            refine lv_iload_n hx hb dL_writes_242 rfl (lv_at hl 5 rfl) ?_
            refine r_icmp_ne (tgt := 323) hx hb rfl (nI_tI (by omega)) dL_writes_243 (by decide) (fun c243 => False.elim (by omega)) (fun c243 => ?_)
            refine lv_aload_n hx hb dL_writes_246 rfl (lv_at hl 7 rfl) ?_
            refine lv_iconst (v := (nI 1)) hx hb dL_writes_247 (by decide) ?_
            refine call_x (va_runV (As := [.int (nI 1)]) (rest := []) ⟨hx, hb, hml, hown, hts⟩ (kX7_count ln dg tq (x0 := x0) (xl := xl) (xh := xh) (xt := xt) (xp := xp) (xo := xo) (xu := xu) (xw := xw) (xlc := xlc) (c := cw135) (s := s1) (hF := hF1) (xhc := xhc) (st := st2135) (nx := nx2135) (hc := hc2135) (xtc := xtc) (tl := tl) (tx := tx) (x := (nI 1)) H.size) (cwV 1 hts gL_writes_X7_count rfl rfl rfl hdX7_count ⟨Nat.le_of_ble_eq_true rfl, Nat.le_of_ble_eq_true rfl⟩) (preVR hK hN hP [2, 3, 4, 5, 6, 0, 1] rfl 2 rfl rfl [.int (nI 1)]) rfl rfl hl.1 rfl (lv_room (Nat.le_of_ble_eq_true rfl)) dL_writes_248 ⟨Nat.le_refl _, Nat.le_refl _⟩) hP hS hA (fun H locs hP hS => ?_)
            refine r_top (show (ctR s1 st2135 tl (nI 1)) = (nI (hE s1)) from ct_ (by omega)) ?_
            refine lv_iload_n hx hb dL_writes_251 rfl (lv_at hl 5 rfl) ?_
            refine r_icmp_ne (tgt := 323) hx hb (nI_tI (by omega)) (nI_tI (by omega)) dL_writes_252 (by decide) (fun c252 => False.elim (by omega)) (fun c252 => ?_)
            refine lv_aload_n hx hb dL_writes_255 rfl (lv_at hl 7 rfl) ?_
            refine lv_iload_n hx hb dL_writes_256 rfl (lv_at hl 5 rfl) ?_
            refine lv_iconst (v := (nI 4)) hx hb dL_writes_257 (by decide) ?_
            refine call_w (wr := [(xt, .inr (6, [.ref xtc, .int (nI tl)])), (xtc, .inl (tq.1, 100, .inl tx)), (xh, .inr (0, [.ref xhc, .int (nI st2135), .int (nI nx2135)])), (xhc, .inl (tq.1, 7365, .inl hc2135))]) (va_runV (As := [.int (nI (nE s)), .int (nI 4)]) (rest := []) ⟨hx, hb, hml, hown, hts⟩ (kX7_entry ln dg tq (x0 := x0) (xl := xl) (xh := xh) (xt := xt) (xp := xp) (xo := xo) (xu := xu) (xw := xw) (xlc := xlc) (c := cw135) (s := s1) (hF := hF1) (xus := xus) (uf := uf2135) (x := (nI (nE s))) (w := (nI 4)) H.size) (cwV 2 hts gL_writes_X7_entry rfl rfl rfl hdX7_entry ⟨Nat.le_of_ble_eq_true rfl, Nat.le_of_ble_eq_true rfl⟩) (preVB hK hN hP hD [2, 3, 4, 7, 8] rfl rfl rfl 2 rfl rfl [.int (nI (nE s)), .int (nI 4)]) rfl rfl hl.1 rfl (lv_room (Nat.le_of_ble_eq_true rfl)) dL_writes_258 ⟨Nat.le_refl _, Nat.le_refl _⟩) hP hD hS hA [2, 3, 4, 7, 8] [0, 1, 5, 6] rfl rfl (by decide) (by decide) (fun r258 u258 H locs hw258 hP hD hS => ?_)
            obtain ⟨uf2258, rfl⟩ : ∃ z, z = u258 := ⟨_, rfl⟩
            have hP : va_P dg vwCl [(xt, .inr (6, [.ref xtc, .int (nI tl)])), (xtc, .inl (tq.1, 100, .inl tx)), (xh, .inr (0, [.ref xhc, .int (nI st2135), .int (nI nx2135)])), (xhc, .inl (tq.1, 7365, .inl hc2135)), (x0, .inr (7, [.ref xl, .ref xh, .ref xt, .ref xp, .ref xo, .ref xu, .ref xw])), (xl, .inr (1, [.ref xlc])), (xlc, .inl (tq.1, 1473, .inl cw135)), (xu, .inr (5, [.ref xus])), (xus, .inl (tq.1, 6, .inl uf2258))] H := hP
            have hD : va_D AA [(xt, .inr (6, [.ref xtc, .int (nI tl)])), (xtc, .inl (tq.1, 100, .inl tx)), (xh, .inr (0, [.ref xhc, .int (nI st2135), .int (nI nx2135)])), (xhc, .inl (tq.1, 7365, .inl hc2135)), (x0, .inr (7, [.ref xl, .ref xh, .ref xt, .ref xp, .ref xo, .ref xu, .ref xw])), (xl, .inr (1, [.ref xlc])), (xlc, .inl (tq.1, 1473, .inl cw135)), (xu, .inr (5, [.ref xus])), (xus, .inl (tq.1, 6, .inl uf2258))] := hD
            subst hw258
            refine r_top (show (etR s1 (nI (nE s)) (nI 4)) = (me s1 (nE s) 0) from (et_ (by omega) (by omega) (by omega))) ?_
            refine r_top (show (me s1 (nE s) 0) = (nI (hE s)) from q5) ?_
            refine lv_iload hx hb dL_writes_261 (lv_at hl 4 rfl) ?_
            refine r_icmp_ne (tgt := 323) hx hb (nI_tI (by omega)) (nI_tI (by omega)) dL_writes_263 (by decide) (fun c263 => False.elim (by omega)) (fun c263 => ?_)
            refine lv_aload_n hx hb dL_writes_266 rfl (lv_at hl 7 rfl) ?_
            refine lv_iload_n hx hb dL_writes_267 rfl (lv_at hl 5 rfl) ?_
            refine lv_bipush (v := (nI 6)) hx hb dL_writes_268 (by decide) ?_
            refine call_w (wr := [(xt, .inr (6, [.ref xtc, .int (nI tl)])), (xtc, .inl (tq.1, 100, .inl tx)), (xh, .inr (0, [.ref xhc, .int (nI st2135), .int (nI nx2135)])), (xhc, .inl (tq.1, 7365, .inl hc2135))]) (va_runV (As := [.int (nI (nE s)), .int (nI 6)]) (rest := []) ⟨hx, hb, hml, hown, hts⟩ (kX7_entry ln dg tq (x0 := x0) (xl := xl) (xh := xh) (xt := xt) (xp := xp) (xo := xo) (xu := xu) (xw := xw) (xlc := xlc) (c := cw135) (s := s1) (hF := hF1) (xus := xus) (uf := uf2258) (x := (nI (nE s))) (w := (nI 6)) H.size) (cwV 2 hts gL_writes_X7_entry rfl rfl rfl hdX7_entry ⟨Nat.le_of_ble_eq_true rfl, Nat.le_of_ble_eq_true rfl⟩) (preVB hK hN hP hD [4, 5, 6, 7, 8] rfl rfl rfl 4 rfl rfl [.int (nI (nE s)), .int (nI 6)]) rfl rfl hl.1 rfl (lv_room (Nat.le_of_ble_eq_true rfl)) dL_writes_270 ⟨Nat.le_refl _, Nat.le_refl _⟩) hP hD hS hA [4, 5, 6, 7, 8] [0, 1, 2, 3] rfl rfl (by decide) (by decide) (fun r270 u270 H locs hw270 hP hD hS => ?_)
            obtain ⟨uf2270, rfl⟩ : ∃ z, z = u270 := ⟨_, rfl⟩
            have hP : va_P dg vwCl [(xt, .inr (6, [.ref xtc, .int (nI tl)])), (xtc, .inl (tq.1, 100, .inl tx)), (xh, .inr (0, [.ref xhc, .int (nI st2135), .int (nI nx2135)])), (xhc, .inl (tq.1, 7365, .inl hc2135)), (x0, .inr (7, [.ref xl, .ref xh, .ref xt, .ref xp, .ref xo, .ref xu, .ref xw])), (xl, .inr (1, [.ref xlc])), (xlc, .inl (tq.1, 1473, .inl cw135)), (xu, .inr (5, [.ref xus])), (xus, .inl (tq.1, 6, .inl uf2270))] H := hP
            have hD : va_D AA [(xt, .inr (6, [.ref xtc, .int (nI tl)])), (xtc, .inl (tq.1, 100, .inl tx)), (xh, .inr (0, [.ref xhc, .int (nI st2135), .int (nI nx2135)])), (xhc, .inl (tq.1, 7365, .inl hc2135)), (x0, .inr (7, [.ref xl, .ref xh, .ref xt, .ref xp, .ref xo, .ref xu, .ref xw])), (xl, .inr (1, [.ref xlc])), (xlc, .inl (tq.1, 1473, .inl cw135)), (xu, .inr (5, [.ref xus])), (xus, .inl (tq.1, 6, .inl uf2270))] := hD
            subst hw270
            refine r_top (show (etR s1 (nI (nE s)) (nI 6)) = (nI 1) from (et_ (by omega) (by omega) (by omega)).trans (et6 q6)) ?_
            refine lv_iconst (v := (nI 1)) hx hb dL_writes_273 (by decide) ?_
            refine r_icmp_ne (tgt := 323) hx hb (nI_tI (by omega)) (nI_tI (by omega)) dL_writes_274 (by decide) (fun c274 => False.elim (by omega)) (fun c274 => ?_)
            refine lv_aload_n hx hb dL_writes_277 rfl (lv_at hl 7 rfl) ?_
            refine lv_iload_n hx hb dL_writes_278 rfl (lv_at hl 5 rfl) ?_
            refine lv_bipush (v := (nI 8)) hx hb dL_writes_279 (by decide) ?_
            refine call_w (wr := [(xt, .inr (6, [.ref xtc, .int (nI tl)])), (xtc, .inl (tq.1, 100, .inl tx)), (xh, .inr (0, [.ref xhc, .int (nI st2135), .int (nI nx2135)])), (xhc, .inl (tq.1, 7365, .inl hc2135))]) (va_runV (As := [.int (nI (nE s)), .int (nI 8)]) (rest := []) ⟨hx, hb, hml, hown, hts⟩ (kX7_entry ln dg tq (x0 := x0) (xl := xl) (xh := xh) (xt := xt) (xp := xp) (xo := xo) (xu := xu) (xw := xw) (xlc := xlc) (c := cw135) (s := s1) (hF := hF1) (xus := xus) (uf := uf2270) (x := (nI (nE s))) (w := (nI 8)) H.size) (cwV 2 hts gL_writes_X7_entry rfl rfl rfl hdX7_entry ⟨Nat.le_of_ble_eq_true rfl, Nat.le_of_ble_eq_true rfl⟩) (preVB hK hN hP hD [4, 5, 6, 7, 8] rfl rfl rfl 4 rfl rfl [.int (nI (nE s)), .int (nI 8)]) rfl rfl hl.1 rfl (lv_room (Nat.le_of_ble_eq_true rfl)) dL_writes_281 ⟨Nat.le_refl _, Nat.le_refl _⟩) hP hD hS hA [4, 5, 6, 7, 8] [0, 1, 2, 3] rfl rfl (by decide) (by decide) (fun r281 u281 H locs hw281 hP hD hS => ?_)
            obtain ⟨uf2281, rfl⟩ : ∃ z, z = u281 := ⟨_, rfl⟩
            have hP : va_P dg vwCl [(xt, .inr (6, [.ref xtc, .int (nI tl)])), (xtc, .inl (tq.1, 100, .inl tx)), (xh, .inr (0, [.ref xhc, .int (nI st2135), .int (nI nx2135)])), (xhc, .inl (tq.1, 7365, .inl hc2135)), (x0, .inr (7, [.ref xl, .ref xh, .ref xt, .ref xp, .ref xo, .ref xu, .ref xw])), (xl, .inr (1, [.ref xlc])), (xlc, .inl (tq.1, 1473, .inl cw135)), (xu, .inr (5, [.ref xus])), (xus, .inl (tq.1, 6, .inl uf2281))] H := hP
            have hD : va_D AA [(xt, .inr (6, [.ref xtc, .int (nI tl)])), (xtc, .inl (tq.1, 100, .inl tx)), (xh, .inr (0, [.ref xhc, .int (nI st2135), .int (nI nx2135)])), (xhc, .inl (tq.1, 7365, .inl hc2135)), (x0, .inr (7, [.ref xl, .ref xh, .ref xt, .ref xp, .ref xo, .ref xu, .ref xw])), (xl, .inr (1, [.ref xlc])), (xlc, .inl (tq.1, 1473, .inl cw135)), (xu, .inr (5, [.ref xus])), (xus, .inl (tq.1, 6, .inl uf2281))] := hD
            subst hw281
            refine r_top (show (etR s1 (nI (nE s)) (nI 8)) = (me s1 (nE s) 6) from (et_ (by omega) (by omega) (by omega))) ?_
            refine r_top (show (me s1 (nE s) 6) = (-100009) from q7) ?_
            refine lv_ldc hx hb hown k19 dL_writes_284 ?_
            refine r_icmp_ne (tgt := 323) hx hb (by decide : ((-100009) : Int32).toInt = (-100009)) (by decide : ((-100009) : Int32).toInt = (-100009)) dL_writes_286 (by decide) (fun c286 => False.elim (by omega)) (fun c286 => ?_)
            refine lv_aload_n hx hb dL_writes_289 rfl (lv_at hl 7 rfl) ?_
            refine lv_iconst (v := (nI 3)) hx hb dL_writes_290 (by decide) ?_
            refine call_x (va_runV (As := [.int (nI 3)]) (rest := []) ⟨hx, hb, hml, hown, hts⟩ (kX7_count ln dg tq (x0 := x0) (xl := xl) (xh := xh) (xt := xt) (xp := xp) (xo := xo) (xu := xu) (xw := xw) (xlc := xlc) (c := cw135) (s := s1) (hF := hF1) (xhc := xhc) (st := st2135) (nx := nx2135) (hc := hc2135) (xtc := xtc) (tl := tl) (tx := tx) (x := (nI 3)) H.size) (cwV 1 hts gL_writes_X7_count rfl rfl rfl hdX7_count ⟨Nat.le_of_ble_eq_true rfl, Nat.le_of_ble_eq_true rfl⟩) (preVR hK hN hP [4, 5, 6, 2, 3, 0, 1] rfl 4 rfl rfl [.int (nI 3)]) rfl rfl hl.1 rfl (lv_room (Nat.le_of_ble_eq_true rfl)) dL_writes_291 ⟨Nat.le_refl _, Nat.le_refl _⟩) hP hS hA (fun H locs hP hS => ?_)
            refine r_top (show (ctR s1 st2135 tl (nI 3)) = (nI (nB s1)) from ct_ (by omega)) ?_
            refine r_if_eq (tgt := 319) hx hb (nI_tI (by omega)) dL_writes_294 (by decide) (fun c294 => False.elim (by omega)) (fun c294 => ?_)
            refine lv_aload_n hx hb dL_writes_297 rfl (lv_at hl 7 rfl) ?_
            refine lv_iconst (v := (nI 0)) hx hb dL_writes_298 (by decide) ?_
            refine lv_iconst (v := (nI 3)) hx hb dL_writes_299 (by decide) ?_
            refine call_x (va_runV (As := [.int (nI 0), .int (nI 3)]) (rest := []) ⟨hx, hb, hml, hown, hts⟩ (kX7_branch ln dg tq (x0 := x0) (xl := xl) (xh := xh) (xt := xt) (xp := xp) (xo := xo) (xu := xu) (xw := xw) (xlc := xlc) (c := cw135) (s := s1) (hF := hF1) (x := (nI 0)) (w := (nI 3)) H.size) (cwV 2 hts gL_writes_X7_branch rfl rfl rfl hdX7_branch ⟨Nat.le_of_ble_eq_true rfl, Nat.le_of_ble_eq_true rfl⟩) (preVR hK hN hP [4, 5, 6] rfl 4 rfl rfl [.int (nI 0), .int (nI 3)]) rfl rfl hl.1 rfl (lv_room (Nat.le_of_ble_eq_true rfl)) dL_writes_300 ⟨Nat.le_refl _, Nat.le_refl _⟩) hP hS hA (fun H locs hP hS => ?_)
            refine r_top (show (brR s1 (nI 0) (nI 3)) = (mb s1 0 2) from (br_ (by omega) (by omega) (by omega))) ?_
            refine lv_iload hx hb dL_writes_303 (lv_at hl 3 rfl) ?_
            refine lv_iload hx hb dL_writes_305 (lv_at hl 2 rfl) ?_
            refine r_if_ne (tgt := 314) hx hb rfl dL_writes_307 (by decide) (fun c307 => ?_) (fun c307 => ?_)
            · skip
              refine lv_iconst (v := (nI 0)) hx hb dL_writes_314 (by decide) ?_
              refine lv_iadd hx hb dL_writes_315 ?_
              refine lv_icmp_ne (tgt := 323) hx hb dL_writes_316 (by decide) (fun c316 => False.elim (by rw [q8 (by omega), if_neg (fun z => c307 ((st_wait (show 0 < nB s by omega) q2).mpr z))] at c316; exact c316 (Int32.add_zero _).symm)) (fun c316 => ?_)
              refine lv_iconst (v := (nI 1)) hx hb dL_writes_319 (by decide) ?_
              refine lv_goto (tgt := 324) hx hb dL_writes_320 (by decide) ?_
              exact hret (nI 1) (cw135, hc2135, st2135, nx2135, uf2281) H locs _ ls (show (nI 1) = (nI 1) ∧ (∃ s2, LX s2 cw135 st2135 nx2135) from (⟨rfl, s1, hL1⟩)) rfl (hP.sub [4, 5, 6, 2, 3, 0, 1, 7, 8] rfl) (hD.sub [4, 5, 6, 2, 3, 0, 1, 7, 8] (by decide) rfl) hS dL_writes_324
            · skip
              refine lv_iconst (v := (nI 1)) hx hb dL_writes_310 (by decide) ?_
              refine lv_goto (tgt := 315) hx hb dL_writes_311 (by decide) ?_
              refine lv_iadd hx hb dL_writes_315 ?_
              refine lv_icmp_ne (tgt := 323) hx hb dL_writes_316 (by decide) (fun c316 => False.elim (by rw [q8 (by omega), if_pos ((st_wait (show 0 < nB s by omega) q2).mp c307)] at c316; exact c316 rfl)) (fun c316 => ?_)
              refine lv_iconst (v := (nI 1)) hx hb dL_writes_319 (by decide) ?_
              refine lv_goto (tgt := 324) hx hb dL_writes_320 (by decide) ?_
              exact hret (nI 1) (cw135, hc2135, st2135, nx2135, uf2281) H locs _ ls (show (nI 1) = (nI 1) ∧ (∃ s2, LX s2 cw135 st2135 nx2135) from (⟨rfl, s1, hL1⟩)) rfl (hP.sub [4, 5, 6, 2, 3, 0, 1, 7, 8] rfl) (hD.sub [4, 5, 6, 2, 3, 0, 1, 7, 8] (by decide) rfl) hS dL_writes_324
          · skip
            obtain ⟨hne, hpl, hca⟩ := hneg c174
            refine lv_iload_n hx hb dL_writes_177 rfl (lv_at hl 6 rfl) ?_
            refine r_if_gt (tgt := 202) hx hb (nI_tI (by omega)) dL_writes_178 (by decide) (fun c178 => ?_) (fun c178 => ?_)
            · skip
              refine lv_aload_n hx hb dL_writes_202 rfl (lv_at hl 7 rfl) ?_
              refine lv_iconst (v := (nI 0)) hx hb dL_writes_203 (by decide) ?_
              refine call_x (va_runV (As := [.int (nI 0)]) (rest := []) ⟨hx, hb, hml, hown, hts⟩ (kX7_count ln dg tq (x0 := x0) (xl := xl) (xh := xh) (xt := xt) (xp := xp) (xo := xo) (xu := xu) (xw := xw) (xlc := xlc) (c := cw135) (s := s1) (hF := hF1) (xhc := xhc) (st := st2135) (nx := nx2135) (hc := hc2135) (xtc := xtc) (tl := tl) (tx := tx) (x := (nI 0)) H.size) (cwV 1 hts gL_writes_X7_count rfl rfl rfl hdX7_count ⟨Nat.le_of_ble_eq_true rfl, Nat.le_of_ble_eq_true rfl⟩) (preVR hK hN hP [2, 3, 4, 5, 6, 0, 1] rfl 2 rfl rfl [.int (nI 0)]) rfl rfl hl.1 rfl (lv_room (Nat.le_of_ble_eq_true rfl)) dL_writes_204 ⟨Nat.le_refl _, Nat.le_refl _⟩) hP hS hA (fun H locs hP hS => ?_)
              refine r_top (show (ctR s1 st2135 tl (nI 0)) = (nI (nE s1)) from ct_ (by omega)) ?_
              refine lv_iload_n hx hb dL_writes_207 rfl (lv_at hl 5 rfl) ?_
              refine r_icmp_ne (tgt := 234) hx hb (nI_tI (by omega)) (nI_tI (by omega)) dL_writes_208 (by decide) (fun c208 => False.elim (by omega)) (fun c208 => ?_)
              refine lv_aload_n hx hb dL_writes_211 rfl (lv_at hl 7 rfl) ?_
              refine lv_iconst (v := (nI 3)) hx hb dL_writes_212 (by decide) ?_
              refine call_x (va_runV (As := [.int (nI 3)]) (rest := []) ⟨hx, hb, hml, hown, hts⟩ (kX7_count ln dg tq (x0 := x0) (xl := xl) (xh := xh) (xt := xt) (xp := xp) (xo := xo) (xu := xu) (xw := xw) (xlc := xlc) (c := cw135) (s := s1) (hF := hF1) (xhc := xhc) (st := st2135) (nx := nx2135) (hc := hc2135) (xtc := xtc) (tl := tl) (tx := tx) (x := (nI 3)) H.size) (cwV 1 hts gL_writes_X7_count rfl rfl rfl hdX7_count ⟨Nat.le_of_ble_eq_true rfl, Nat.le_of_ble_eq_true rfl⟩) (preVR hK hN hP [2, 3, 4, 5, 6, 0, 1] rfl 2 rfl rfl [.int (nI 3)]) rfl rfl hl.1 rfl (lv_room (Nat.le_of_ble_eq_true rfl)) dL_writes_213 ⟨Nat.le_refl _, Nat.le_refl _⟩) hP hS hA (fun H locs hP hS => ?_)
              refine r_top (show (ctR s1 st2135 tl (nI 3)) = (nI (nB s1)) from ct_ (by omega)) ?_
              refine r_if_eq (tgt := 230) hx hb (nI_tI (by omega)) dL_writes_216 (by decide) (fun c216 => False.elim (by omega)) (fun c216 => ?_)
              refine lv_aload_n hx hb dL_writes_219 rfl (lv_at hl 7 rfl) ?_
              refine lv_iconst (v := (nI 0)) hx hb dL_writes_220 (by decide) ?_
              refine lv_iconst (v := (nI 3)) hx hb dL_writes_221 (by decide) ?_
              refine call_x (va_runV (As := [.int (nI 0), .int (nI 3)]) (rest := []) ⟨hx, hb, hml, hown, hts⟩ (kX7_branch ln dg tq (x0 := x0) (xl := xl) (xh := xh) (xt := xt) (xp := xp) (xo := xo) (xu := xu) (xw := xw) (xlc := xlc) (c := cw135) (s := s1) (hF := hF1) (x := (nI 0)) (w := (nI 3)) H.size) (cwV 2 hts gL_writes_X7_branch rfl rfl rfl hdX7_branch ⟨Nat.le_of_ble_eq_true rfl, Nat.le_of_ble_eq_true rfl⟩) (preVR hK hN hP [2, 3, 4] rfl 2 rfl rfl [.int (nI 0), .int (nI 3)]) rfl rfl hl.1 rfl (lv_room (Nat.le_of_ble_eq_true rfl)) dL_writes_222 ⟨Nat.le_refl _, Nat.le_refl _⟩) hP hS hA (fun H locs hP hS => ?_)
              refine r_top (show (brR s1 (nI 0) (nI 3)) = (mb s1 0 2) from (br_ (by omega) (by omega) (by omega))) ?_
              refine lv_iload hx hb dL_writes_225 (lv_at hl 3 rfl) ?_
              refine lv_icmp_ne (tgt := 234) hx hb dL_writes_227 (by decide) (fun c227 => False.elim (by exact c227 hpl)) (fun c227 => ?_)
              refine lv_iconst (v := (nI 1)) hx hb dL_writes_230 (by decide) ?_
              refine lv_goto (tgt := 235) hx hb dL_writes_231 (by decide) ?_
              exact hret (nI 1) (cw135, hc2135, st2135, nx2135, uf2135) H locs _ ls (show (nI 1) = (nI 1) ∧ (∃ s2, LX s2 cw135 st2135 nx2135) from (⟨rfl, s1, hL1⟩)) rfl (hP.sub [2, 3, 4, 5, 6, 0, 1, 7, 8] rfl) (hD.sub [2, 3, 4, 5, 6, 0, 1, 7, 8] (by decide) rfl) hS dL_writes_235
            · skip
              refine lv_iload_n hx hb dL_writes_181 rfl (lv_at hl 5 rfl) ?_
              refine lv_bipush (v := (nI 60)) hx hb dL_writes_182 (by decide) ?_
              refine r_icmp_ne (tgt := 190) hx hb (nI_tI (by omega)) (nI_tI (by omega)) dL_writes_184 (by decide) (fun c184 => ?_) (fun c184 => ?_)
              · skip
                refine lv_iload hx hb dL_writes_190 (lv_at hl 1 rfl) ?_
                refine lv_iconst (v := (nI 1)) hx hb dL_writes_192 (by decide) ?_
                refine r_icmp_eq (tgt := 202) hx hb (nI_tI (by omega)) (nI_tI (by omega)) dL_writes_193 (by decide) (fun c193 => ?_) (fun c193 => ?_)
                · skip
                  refine lv_aload_n hx hb dL_writes_202 rfl (lv_at hl 7 rfl) ?_
                  refine lv_iconst (v := (nI 0)) hx hb dL_writes_203 (by decide) ?_
                  refine call_x (va_runV (As := [.int (nI 0)]) (rest := []) ⟨hx, hb, hml, hown, hts⟩ (kX7_count ln dg tq (x0 := x0) (xl := xl) (xh := xh) (xt := xt) (xp := xp) (xo := xo) (xu := xu) (xw := xw) (xlc := xlc) (c := cw135) (s := s1) (hF := hF1) (xhc := xhc) (st := st2135) (nx := nx2135) (hc := hc2135) (xtc := xtc) (tl := tl) (tx := tx) (x := (nI 0)) H.size) (cwV 1 hts gL_writes_X7_count rfl rfl rfl hdX7_count ⟨Nat.le_of_ble_eq_true rfl, Nat.le_of_ble_eq_true rfl⟩) (preVR hK hN hP [2, 3, 4, 5, 6, 0, 1] rfl 2 rfl rfl [.int (nI 0)]) rfl rfl hl.1 rfl (lv_room (Nat.le_of_ble_eq_true rfl)) dL_writes_204 ⟨Nat.le_refl _, Nat.le_refl _⟩) hP hS hA (fun H locs hP hS => ?_)
                  refine r_top (show (ctR s1 st2135 tl (nI 0)) = (nI (nE s1)) from ct_ (by omega)) ?_
                  refine lv_iload_n hx hb dL_writes_207 rfl (lv_at hl 5 rfl) ?_
                  refine r_icmp_ne (tgt := 234) hx hb (nI_tI (by omega)) (nI_tI (by omega)) dL_writes_208 (by decide) (fun c208 => False.elim (by omega)) (fun c208 => ?_)
                  refine lv_aload_n hx hb dL_writes_211 rfl (lv_at hl 7 rfl) ?_
                  refine lv_iconst (v := (nI 3)) hx hb dL_writes_212 (by decide) ?_
                  refine call_x (va_runV (As := [.int (nI 3)]) (rest := []) ⟨hx, hb, hml, hown, hts⟩ (kX7_count ln dg tq (x0 := x0) (xl := xl) (xh := xh) (xt := xt) (xp := xp) (xo := xo) (xu := xu) (xw := xw) (xlc := xlc) (c := cw135) (s := s1) (hF := hF1) (xhc := xhc) (st := st2135) (nx := nx2135) (hc := hc2135) (xtc := xtc) (tl := tl) (tx := tx) (x := (nI 3)) H.size) (cwV 1 hts gL_writes_X7_count rfl rfl rfl hdX7_count ⟨Nat.le_of_ble_eq_true rfl, Nat.le_of_ble_eq_true rfl⟩) (preVR hK hN hP [2, 3, 4, 5, 6, 0, 1] rfl 2 rfl rfl [.int (nI 3)]) rfl rfl hl.1 rfl (lv_room (Nat.le_of_ble_eq_true rfl)) dL_writes_213 ⟨Nat.le_refl _, Nat.le_refl _⟩) hP hS hA (fun H locs hP hS => ?_)
                  refine r_top (show (ctR s1 st2135 tl (nI 3)) = (nI (nB s1)) from ct_ (by omega)) ?_
                  refine r_if_eq (tgt := 230) hx hb (nI_tI (by omega)) dL_writes_216 (by decide) (fun c216 => False.elim (by omega)) (fun c216 => ?_)
                  refine lv_aload_n hx hb dL_writes_219 rfl (lv_at hl 7 rfl) ?_
                  refine lv_iconst (v := (nI 0)) hx hb dL_writes_220 (by decide) ?_
                  refine lv_iconst (v := (nI 3)) hx hb dL_writes_221 (by decide) ?_
                  refine call_x (va_runV (As := [.int (nI 0), .int (nI 3)]) (rest := []) ⟨hx, hb, hml, hown, hts⟩ (kX7_branch ln dg tq (x0 := x0) (xl := xl) (xh := xh) (xt := xt) (xp := xp) (xo := xo) (xu := xu) (xw := xw) (xlc := xlc) (c := cw135) (s := s1) (hF := hF1) (x := (nI 0)) (w := (nI 3)) H.size) (cwV 2 hts gL_writes_X7_branch rfl rfl rfl hdX7_branch ⟨Nat.le_of_ble_eq_true rfl, Nat.le_of_ble_eq_true rfl⟩) (preVR hK hN hP [2, 3, 4] rfl 2 rfl rfl [.int (nI 0), .int (nI 3)]) rfl rfl hl.1 rfl (lv_room (Nat.le_of_ble_eq_true rfl)) dL_writes_222 ⟨Nat.le_refl _, Nat.le_refl _⟩) hP hS hA (fun H locs hP hS => ?_)
                  refine r_top (show (brR s1 (nI 0) (nI 3)) = (mb s1 0 2) from (br_ (by omega) (by omega) (by omega))) ?_
                  refine lv_iload hx hb dL_writes_225 (lv_at hl 3 rfl) ?_
                  refine lv_icmp_ne (tgt := 234) hx hb dL_writes_227 (by decide) (fun c227 => False.elim (by exact c227 hpl)) (fun c227 => ?_)
                  refine lv_iconst (v := (nI 1)) hx hb dL_writes_230 (by decide) ?_
                  refine lv_goto (tgt := 235) hx hb dL_writes_231 (by decide) ?_
                  exact hret (nI 1) (cw135, hc2135, st2135, nx2135, uf2135) H locs _ ls (show (nI 1) = (nI 1) ∧ (∃ s2, LX s2 cw135 st2135 nx2135) from (⟨rfl, s1, hL1⟩)) rfl (hP.sub [2, 3, 4, 5, 6, 0, 1, 7, 8] rfl) (hD.sub [2, 3, 4, 5, 6, 0, 1, 7, 8] (by decide) rfl) hS dL_writes_235
                · skip
                  refine lv_iload hx hb dL_writes_196 (lv_at hl 1 rfl) ?_
                  refine lv_iconst (v := (nI 3)) hx hb dL_writes_198 (by decide) ?_
                  refine r_icmp_ne (tgt := 234) hx hb (nI_tI (by omega)) (nI_tI (by omega)) dL_writes_199 (by decide) (fun c199 => False.elim (by omega)) (fun c199 => ?_)
                  refine lv_aload_n hx hb dL_writes_202 rfl (lv_at hl 7 rfl) ?_
                  refine lv_iconst (v := (nI 0)) hx hb dL_writes_203 (by decide) ?_
                  refine call_x (va_runV (As := [.int (nI 0)]) (rest := []) ⟨hx, hb, hml, hown, hts⟩ (kX7_count ln dg tq (x0 := x0) (xl := xl) (xh := xh) (xt := xt) (xp := xp) (xo := xo) (xu := xu) (xw := xw) (xlc := xlc) (c := cw135) (s := s1) (hF := hF1) (xhc := xhc) (st := st2135) (nx := nx2135) (hc := hc2135) (xtc := xtc) (tl := tl) (tx := tx) (x := (nI 0)) H.size) (cwV 1 hts gL_writes_X7_count rfl rfl rfl hdX7_count ⟨Nat.le_of_ble_eq_true rfl, Nat.le_of_ble_eq_true rfl⟩) (preVR hK hN hP [2, 3, 4, 5, 6, 0, 1] rfl 2 rfl rfl [.int (nI 0)]) rfl rfl hl.1 rfl (lv_room (Nat.le_of_ble_eq_true rfl)) dL_writes_204 ⟨Nat.le_refl _, Nat.le_refl _⟩) hP hS hA (fun H locs hP hS => ?_)
                  refine r_top (show (ctR s1 st2135 tl (nI 0)) = (nI (nE s1)) from ct_ (by omega)) ?_
                  refine lv_iload_n hx hb dL_writes_207 rfl (lv_at hl 5 rfl) ?_
                  refine r_icmp_ne (tgt := 234) hx hb (nI_tI (by omega)) (nI_tI (by omega)) dL_writes_208 (by decide) (fun c208 => False.elim (by omega)) (fun c208 => ?_)
                  refine lv_aload_n hx hb dL_writes_211 rfl (lv_at hl 7 rfl) ?_
                  refine lv_iconst (v := (nI 3)) hx hb dL_writes_212 (by decide) ?_
                  refine call_x (va_runV (As := [.int (nI 3)]) (rest := []) ⟨hx, hb, hml, hown, hts⟩ (kX7_count ln dg tq (x0 := x0) (xl := xl) (xh := xh) (xt := xt) (xp := xp) (xo := xo) (xu := xu) (xw := xw) (xlc := xlc) (c := cw135) (s := s1) (hF := hF1) (xhc := xhc) (st := st2135) (nx := nx2135) (hc := hc2135) (xtc := xtc) (tl := tl) (tx := tx) (x := (nI 3)) H.size) (cwV 1 hts gL_writes_X7_count rfl rfl rfl hdX7_count ⟨Nat.le_of_ble_eq_true rfl, Nat.le_of_ble_eq_true rfl⟩) (preVR hK hN hP [2, 3, 4, 5, 6, 0, 1] rfl 2 rfl rfl [.int (nI 3)]) rfl rfl hl.1 rfl (lv_room (Nat.le_of_ble_eq_true rfl)) dL_writes_213 ⟨Nat.le_refl _, Nat.le_refl _⟩) hP hS hA (fun H locs hP hS => ?_)
                  refine r_top (show (ctR s1 st2135 tl (nI 3)) = (nI (nB s1)) from ct_ (by omega)) ?_
                  refine r_if_eq (tgt := 230) hx hb (nI_tI (by omega)) dL_writes_216 (by decide) (fun c216 => False.elim (by omega)) (fun c216 => ?_)
                  refine lv_aload_n hx hb dL_writes_219 rfl (lv_at hl 7 rfl) ?_
                  refine lv_iconst (v := (nI 0)) hx hb dL_writes_220 (by decide) ?_
                  refine lv_iconst (v := (nI 3)) hx hb dL_writes_221 (by decide) ?_
                  refine call_x (va_runV (As := [.int (nI 0), .int (nI 3)]) (rest := []) ⟨hx, hb, hml, hown, hts⟩ (kX7_branch ln dg tq (x0 := x0) (xl := xl) (xh := xh) (xt := xt) (xp := xp) (xo := xo) (xu := xu) (xw := xw) (xlc := xlc) (c := cw135) (s := s1) (hF := hF1) (x := (nI 0)) (w := (nI 3)) H.size) (cwV 2 hts gL_writes_X7_branch rfl rfl rfl hdX7_branch ⟨Nat.le_of_ble_eq_true rfl, Nat.le_of_ble_eq_true rfl⟩) (preVR hK hN hP [2, 3, 4] rfl 2 rfl rfl [.int (nI 0), .int (nI 3)]) rfl rfl hl.1 rfl (lv_room (Nat.le_of_ble_eq_true rfl)) dL_writes_222 ⟨Nat.le_refl _, Nat.le_refl _⟩) hP hS hA (fun H locs hP hS => ?_)
                  refine r_top (show (brR s1 (nI 0) (nI 3)) = (mb s1 0 2) from (br_ (by omega) (by omega) (by omega))) ?_
                  refine lv_iload hx hb dL_writes_225 (lv_at hl 3 rfl) ?_
                  refine lv_icmp_ne (tgt := 234) hx hb dL_writes_227 (by decide) (fun c227 => False.elim (by exact c227 hpl)) (fun c227 => ?_)
                  refine lv_iconst (v := (nI 1)) hx hb dL_writes_230 (by decide) ?_
                  refine lv_goto (tgt := 235) hx hb dL_writes_231 (by decide) ?_
                  exact hret (nI 1) (cw135, hc2135, st2135, nx2135, uf2135) H locs _ ls (show (nI 1) = (nI 1) ∧ (∃ s2, LX s2 cw135 st2135 nx2135) from (⟨rfl, s1, hL1⟩)) rfl (hP.sub [2, 3, 4, 5, 6, 0, 1, 7, 8] rfl) (hD.sub [2, 3, 4, 5, 6, 0, 1, 7, 8] (by decide) rfl) hS dL_writes_235
              · skip
                refine lv_goto (tgt := 202) hx hb dL_writes_187 (by decide) ?_
                refine lv_aload_n hx hb dL_writes_202 rfl (lv_at hl 7 rfl) ?_
                refine lv_iconst (v := (nI 0)) hx hb dL_writes_203 (by decide) ?_
                refine call_x (va_runV (As := [.int (nI 0)]) (rest := []) ⟨hx, hb, hml, hown, hts⟩ (kX7_count ln dg tq (x0 := x0) (xl := xl) (xh := xh) (xt := xt) (xp := xp) (xo := xo) (xu := xu) (xw := xw) (xlc := xlc) (c := cw135) (s := s1) (hF := hF1) (xhc := xhc) (st := st2135) (nx := nx2135) (hc := hc2135) (xtc := xtc) (tl := tl) (tx := tx) (x := (nI 0)) H.size) (cwV 1 hts gL_writes_X7_count rfl rfl rfl hdX7_count ⟨Nat.le_of_ble_eq_true rfl, Nat.le_of_ble_eq_true rfl⟩) (preVR hK hN hP [2, 3, 4, 5, 6, 0, 1] rfl 2 rfl rfl [.int (nI 0)]) rfl rfl hl.1 rfl (lv_room (Nat.le_of_ble_eq_true rfl)) dL_writes_204 ⟨Nat.le_refl _, Nat.le_refl _⟩) hP hS hA (fun H locs hP hS => ?_)
                refine r_top (show (ctR s1 st2135 tl (nI 0)) = (nI (nE s1)) from ct_ (by omega)) ?_
                refine lv_iload_n hx hb dL_writes_207 rfl (lv_at hl 5 rfl) ?_
                refine r_icmp_ne (tgt := 234) hx hb (nI_tI (by omega)) (nI_tI (by omega)) dL_writes_208 (by decide) (fun c208 => False.elim (by omega)) (fun c208 => ?_)
                refine lv_aload_n hx hb dL_writes_211 rfl (lv_at hl 7 rfl) ?_
                refine lv_iconst (v := (nI 3)) hx hb dL_writes_212 (by decide) ?_
                refine call_x (va_runV (As := [.int (nI 3)]) (rest := []) ⟨hx, hb, hml, hown, hts⟩ (kX7_count ln dg tq (x0 := x0) (xl := xl) (xh := xh) (xt := xt) (xp := xp) (xo := xo) (xu := xu) (xw := xw) (xlc := xlc) (c := cw135) (s := s1) (hF := hF1) (xhc := xhc) (st := st2135) (nx := nx2135) (hc := hc2135) (xtc := xtc) (tl := tl) (tx := tx) (x := (nI 3)) H.size) (cwV 1 hts gL_writes_X7_count rfl rfl rfl hdX7_count ⟨Nat.le_of_ble_eq_true rfl, Nat.le_of_ble_eq_true rfl⟩) (preVR hK hN hP [2, 3, 4, 5, 6, 0, 1] rfl 2 rfl rfl [.int (nI 3)]) rfl rfl hl.1 rfl (lv_room (Nat.le_of_ble_eq_true rfl)) dL_writes_213 ⟨Nat.le_refl _, Nat.le_refl _⟩) hP hS hA (fun H locs hP hS => ?_)
                refine r_top (show (ctR s1 st2135 tl (nI 3)) = (nI (nB s1)) from ct_ (by omega)) ?_
                refine r_if_eq (tgt := 230) hx hb (nI_tI (by omega)) dL_writes_216 (by decide) (fun c216 => False.elim (by omega)) (fun c216 => ?_)
                refine lv_aload_n hx hb dL_writes_219 rfl (lv_at hl 7 rfl) ?_
                refine lv_iconst (v := (nI 0)) hx hb dL_writes_220 (by decide) ?_
                refine lv_iconst (v := (nI 3)) hx hb dL_writes_221 (by decide) ?_
                refine call_x (va_runV (As := [.int (nI 0), .int (nI 3)]) (rest := []) ⟨hx, hb, hml, hown, hts⟩ (kX7_branch ln dg tq (x0 := x0) (xl := xl) (xh := xh) (xt := xt) (xp := xp) (xo := xo) (xu := xu) (xw := xw) (xlc := xlc) (c := cw135) (s := s1) (hF := hF1) (x := (nI 0)) (w := (nI 3)) H.size) (cwV 2 hts gL_writes_X7_branch rfl rfl rfl hdX7_branch ⟨Nat.le_of_ble_eq_true rfl, Nat.le_of_ble_eq_true rfl⟩) (preVR hK hN hP [2, 3, 4] rfl 2 rfl rfl [.int (nI 0), .int (nI 3)]) rfl rfl hl.1 rfl (lv_room (Nat.le_of_ble_eq_true rfl)) dL_writes_222 ⟨Nat.le_refl _, Nat.le_refl _⟩) hP hS hA (fun H locs hP hS => ?_)
                refine r_top (show (brR s1 (nI 0) (nI 3)) = (mb s1 0 2) from (br_ (by omega) (by omega) (by omega))) ?_
                refine lv_iload hx hb dL_writes_225 (lv_at hl 3 rfl) ?_
                refine lv_icmp_ne (tgt := 234) hx hb dL_writes_227 (by decide) (fun c227 => False.elim (by exact c227 hpl)) (fun c227 => ?_)
                refine lv_iconst (v := (nI 1)) hx hb dL_writes_230 (by decide) ?_
                refine lv_goto (tgt := 235) hx hb dL_writes_231 (by decide) ?_
                exact hret (nI 1) (cw135, hc2135, st2135, nx2135, uf2135) H locs _ ls (show (nI 1) = (nI 1) ∧ (∃ s2, LX s2 cw135 st2135 nx2135) from (⟨rfl, s1, hL1⟩)) rfl (hP.sub [2, 3, 4, 5, 6, 0, 1, 7, 8] rfl) (hD.sub [2, 3, 4, 5, 6, 0, 1, 7, 8] (by decide) rfl) hS dL_writes_235
      · skip
        refine lv_aload_n hx hb dL_writes_98 rfl (lv_at hl 6 rfl) ?_
        refine lv_iconst (v := (nI 1)) hx hb dL_writes_99 (by decide) ?_
        refine lv_iload_n hx hb dL_writes_100 rfl (lv_at hl 7 rfl) ?_
        refine lv_iconst (v := (nI 4)) hx hb dL_writes_101 (by decide) ?_
        refine r_idiv_n hx hb (by omega) (by omega) (by omega) dL_writes_102 ?_
        refine lv_iconst (v := (nI 5)) hx hb dL_writes_103 (by decide) ?_
        refine r_irem_n hx hb (by omega) (by omega) (by omega) dL_writes_104 ?_
        refine r_iadd_n hx hb dL_writes_105 ?_
        refine lv_iconst (v := (nI 1)) hx hb dL_writes_106 (by decide) ?_
        refine lv_iload_n hx hb dL_writes_107 rfl (lv_at hl 7 rfl) ?_
        refine lv_bipush (v := (nI 32)) hx hb dL_writes_108 (by decide) ?_
        refine r_idiv_n hx hb (by omega) (by omega) (by omega) dL_writes_110 ?_
        refine lv_bipush (v := (nI 90)) hx hb dL_writes_111 (by decide) ?_
        refine r_irem_n hx hb (by omega) (by omega) (by omega) dL_writes_113 ?_
        refine r_iadd_n hx hb dL_writes_114 ?_
        refine call_w (wr := [(xt, .inr (6, [.ref xtc, .int (nI tl)])), (xtc, .inl (tq.1, 100, .inl tx))]) (va_runV (As := [.int (nI (1 + ((z / 4) % 5))), .int (nI (1 + ((z / 32) % 90)))]) (rest := []) ⟨hx, hb, hml, hown, hts⟩ (kX7_fee ln dg tq (x0 := x0) (xl := xl) (xh := xh) (xt := xt) (xp := xp) (xo := xo) (xu := xu) (xw := xw) (xlc := xlc) (c := c) (s := s) (hF := hF) (xhc := xhc) (st := st) (nx := nx) (hc := hc) (hst := (by omega)) (hnx := (by omega)) (xus := xus) (uf := uf) (f := (nI (1 + ((z / 4) % 5)))) (am := (nI (1 + ((z / 32) % 90)))) H.size) (cwV 2 hts gL_writes_X7_fee rfl rfl rfl hdX7_fee ⟨Nat.le_of_ble_eq_true rfl, Nat.le_of_ble_eq_true rfl⟩) (preVB hK hN hP hD [0, 1, 2, 3, 4, 7, 8] rfl rfl rfl 0 rfl rfl [.int (nI (1 + ((z / 4) % 5))), .int (nI (1 + ((z / 32) % 90)))]) rfl rfl hl.1 rfl (lv_room (Nat.le_of_ble_eq_true rfl)) dL_writes_115 ⟨Nat.le_refl _, Nat.le_refl _⟩) hP hD hS hA [0, 1, 2, 3, 4, 7, 8] [5, 6] rfl rfl (by decide) (by decide) (fun r115 u115 H locs hw115 hP hD hS => ?_)
        obtain ⟨cw115, hc2115, st2115, nx2115, uf2115⟩ := u115
        have hP : va_P dg vwCl [(xt, .inr (6, [.ref xtc, .int (nI tl)])), (xtc, .inl (tq.1, 100, .inl tx)), (x0, .inr (7, [.ref xl, .ref xh, .ref xt, .ref xp, .ref xo, .ref xu, .ref xw])), (xl, .inr (1, [.ref xlc])), (xlc, .inl (tq.1, 1473, .inl cw115)), (xh, .inr (0, [.ref xhc, .int (nI st2115), .int (nI nx2115)])), (xhc, .inl (tq.1, 7365, .inl hc2115)), (xu, .inr (5, [.ref xus])), (xus, .inl (tq.1, 6, .inl uf2115))] H := hP
        have hD : va_D AA [(xt, .inr (6, [.ref xtc, .int (nI tl)])), (xtc, .inl (tq.1, 100, .inl tx)), (x0, .inr (7, [.ref xl, .ref xh, .ref xt, .ref xp, .ref xo, .ref xu, .ref xw])), (xl, .inr (1, [.ref xlc])), (xlc, .inl (tq.1, 1473, .inl cw115)), (xh, .inr (0, [.ref xhc, .int (nI st2115), .int (nI nx2115)])), (xhc, .inl (tq.1, 7365, .inl hc2115)), (xu, .inr (5, [.ref xus])), (xus, .inl (tq.1, 6, .inl uf2115))] := hD
        obtain ⟨hr115, hw115⟩ := hw115
        subst hr115
        obtain ⟨tv_, htv_⟩ : ∃ x : Int32, x = feR s (nI (1 + z / 4 % 5)) (nI (1 + z / 32 % 90)) := ⟨_, rfl⟩
        obtain ⟨s1, hL1, hB1, hneg, hpos, -⟩ := A_fe hL (by omega) (by omega) (by omega) (by omega) htv_ hw115
        obtain ⟨hF1, hX1, hst1, hnx1⟩ := id hL1
        obtain ⟨hR1, hW1, -, -⟩ := id hF1
        have hn601 := hW1.n60
        have hn11 := hW1.n1
        have hb101 := hW1.b10
        have hs81 := hW1.s8
        have hhn1 := hW1.hn
        refine r_top (show (feR s (nI (1 + ((z / 4) % 5))) (nI (1 + ((z / 32) % 90)))) = tv_ from htv_.symm) ?_
        refine lv_goto (tgt := 170) hx hb dL_writes_118 (by decide) ?_
        refine lv_istore (lv' := [(8, .int tv_), (7, .int (nI (z % 4))), (6, .int (brN s 0 4)), (5, .int (mb s 0 2)), (4, .int (nI (hE s))), (3, .int (nI (nE s))), (2, .int (nI (cntF (loudB s) (nB s)))), (0, .ref x0), (1, .int (nI z))]) hx hb dL_writes_170 hl (by decide) rfl (fun ls hl => ?_)
        refine lv_iload hx hb dL_writes_172 (lv_at hl 0 rfl) ?_
        refine r_if_ge (tgt := 236) hx hb rfl dL_writes_174 (by decide) (fun c174 => ?_) (fun c174 => ?_)
        · skip
          obtain ⟨q1, q2, q3, q4, q5, q6, q7, q8⟩ := hpos c174
          refine lv_iload_n hx hb dL_writes_236 rfl (lv_at hl 6 rfl) ?_
          refine r_if_ne (tgt := 323) hx hb (nI_tI (by omega)) dL_writes_237 (by decide) (fun c237 => False.elim (by omega)) (fun c237 => ?_)
          refine lv_iload hx hb dL_writes_240 (lv_at hl 0 rfl) ?_
          refine lv_iload_n hx hb dL_writes_242 rfl (lv_at hl 5 rfl) ?_
          refine r_icmp_ne (tgt := 323) hx hb rfl (nI_tI (by omega)) dL_writes_243 (by decide) (fun c243 => False.elim (by omega)) (fun c243 => ?_)
          refine lv_aload_n hx hb dL_writes_246 rfl (lv_at hl 7 rfl) ?_
          refine lv_iconst (v := (nI 1)) hx hb dL_writes_247 (by decide) ?_
          refine call_x (va_runV (As := [.int (nI 1)]) (rest := []) ⟨hx, hb, hml, hown, hts⟩ (kX7_count ln dg tq (x0 := x0) (xl := xl) (xh := xh) (xt := xt) (xp := xp) (xo := xo) (xu := xu) (xw := xw) (xlc := xlc) (c := cw115) (s := s1) (hF := hF1) (xhc := xhc) (st := st2115) (nx := nx2115) (hc := hc2115) (xtc := xtc) (tl := tl) (tx := tx) (x := (nI 1)) H.size) (cwV 1 hts gL_writes_X7_count rfl rfl rfl hdX7_count ⟨Nat.le_of_ble_eq_true rfl, Nat.le_of_ble_eq_true rfl⟩) (preVR hK hN hP [2, 3, 4, 5, 6, 0, 1] rfl 2 rfl rfl [.int (nI 1)]) rfl rfl hl.1 rfl (lv_room (Nat.le_of_ble_eq_true rfl)) dL_writes_248 ⟨Nat.le_refl _, Nat.le_refl _⟩) hP hS hA (fun H locs hP hS => ?_)
          refine r_top (show (ctR s1 st2115 tl (nI 1)) = (nI (hE s1)) from ct_ (by omega)) ?_
          refine lv_iload_n hx hb dL_writes_251 rfl (lv_at hl 5 rfl) ?_
          refine r_icmp_ne (tgt := 323) hx hb (nI_tI (by omega)) (nI_tI (by omega)) dL_writes_252 (by decide) (fun c252 => False.elim (by omega)) (fun c252 => ?_)
          refine lv_aload_n hx hb dL_writes_255 rfl (lv_at hl 7 rfl) ?_
          refine lv_iload_n hx hb dL_writes_256 rfl (lv_at hl 5 rfl) ?_
          refine lv_iconst (v := (nI 4)) hx hb dL_writes_257 (by decide) ?_
          refine call_w (wr := [(xt, .inr (6, [.ref xtc, .int (nI tl)])), (xtc, .inl (tq.1, 100, .inl tx)), (xh, .inr (0, [.ref xhc, .int (nI st2115), .int (nI nx2115)])), (xhc, .inl (tq.1, 7365, .inl hc2115))]) (va_runV (As := [.int (nI (nE s)), .int (nI 4)]) (rest := []) ⟨hx, hb, hml, hown, hts⟩ (kX7_entry ln dg tq (x0 := x0) (xl := xl) (xh := xh) (xt := xt) (xp := xp) (xo := xo) (xu := xu) (xw := xw) (xlc := xlc) (c := cw115) (s := s1) (hF := hF1) (xus := xus) (uf := uf2115) (x := (nI (nE s))) (w := (nI 4)) H.size) (cwV 2 hts gL_writes_X7_entry rfl rfl rfl hdX7_entry ⟨Nat.le_of_ble_eq_true rfl, Nat.le_of_ble_eq_true rfl⟩) (preVB hK hN hP hD [2, 3, 4, 7, 8] rfl rfl rfl 2 rfl rfl [.int (nI (nE s)), .int (nI 4)]) rfl rfl hl.1 rfl (lv_room (Nat.le_of_ble_eq_true rfl)) dL_writes_258 ⟨Nat.le_refl _, Nat.le_refl _⟩) hP hD hS hA [2, 3, 4, 7, 8] [0, 1, 5, 6] rfl rfl (by decide) (by decide) (fun r258 u258 H locs hw258 hP hD hS => ?_)
          obtain ⟨uf2258, rfl⟩ : ∃ z, z = u258 := ⟨_, rfl⟩
          have hP : va_P dg vwCl [(xt, .inr (6, [.ref xtc, .int (nI tl)])), (xtc, .inl (tq.1, 100, .inl tx)), (xh, .inr (0, [.ref xhc, .int (nI st2115), .int (nI nx2115)])), (xhc, .inl (tq.1, 7365, .inl hc2115)), (x0, .inr (7, [.ref xl, .ref xh, .ref xt, .ref xp, .ref xo, .ref xu, .ref xw])), (xl, .inr (1, [.ref xlc])), (xlc, .inl (tq.1, 1473, .inl cw115)), (xu, .inr (5, [.ref xus])), (xus, .inl (tq.1, 6, .inl uf2258))] H := hP
          have hD : va_D AA [(xt, .inr (6, [.ref xtc, .int (nI tl)])), (xtc, .inl (tq.1, 100, .inl tx)), (xh, .inr (0, [.ref xhc, .int (nI st2115), .int (nI nx2115)])), (xhc, .inl (tq.1, 7365, .inl hc2115)), (x0, .inr (7, [.ref xl, .ref xh, .ref xt, .ref xp, .ref xo, .ref xu, .ref xw])), (xl, .inr (1, [.ref xlc])), (xlc, .inl (tq.1, 1473, .inl cw115)), (xu, .inr (5, [.ref xus])), (xus, .inl (tq.1, 6, .inl uf2258))] := hD
          subst hw258
          refine r_top (show (etR s1 (nI (nE s)) (nI 4)) = (me s1 (nE s) 0) from (et_ (by omega) (by omega) (by omega))) ?_
          refine r_top (show (me s1 (nE s) 0) = (nI (hE s)) from q5) ?_
          refine lv_iload hx hb dL_writes_261 (lv_at hl 4 rfl) ?_
          refine r_icmp_ne (tgt := 323) hx hb (nI_tI (by omega)) (nI_tI (by omega)) dL_writes_263 (by decide) (fun c263 => False.elim (by omega)) (fun c263 => ?_)
          refine lv_aload_n hx hb dL_writes_266 rfl (lv_at hl 7 rfl) ?_
          refine lv_iload_n hx hb dL_writes_267 rfl (lv_at hl 5 rfl) ?_
          refine lv_bipush (v := (nI 6)) hx hb dL_writes_268 (by decide) ?_
          refine call_w (wr := [(xt, .inr (6, [.ref xtc, .int (nI tl)])), (xtc, .inl (tq.1, 100, .inl tx)), (xh, .inr (0, [.ref xhc, .int (nI st2115), .int (nI nx2115)])), (xhc, .inl (tq.1, 7365, .inl hc2115))]) (va_runV (As := [.int (nI (nE s)), .int (nI 6)]) (rest := []) ⟨hx, hb, hml, hown, hts⟩ (kX7_entry ln dg tq (x0 := x0) (xl := xl) (xh := xh) (xt := xt) (xp := xp) (xo := xo) (xu := xu) (xw := xw) (xlc := xlc) (c := cw115) (s := s1) (hF := hF1) (xus := xus) (uf := uf2258) (x := (nI (nE s))) (w := (nI 6)) H.size) (cwV 2 hts gL_writes_X7_entry rfl rfl rfl hdX7_entry ⟨Nat.le_of_ble_eq_true rfl, Nat.le_of_ble_eq_true rfl⟩) (preVB hK hN hP hD [4, 5, 6, 7, 8] rfl rfl rfl 4 rfl rfl [.int (nI (nE s)), .int (nI 6)]) rfl rfl hl.1 rfl (lv_room (Nat.le_of_ble_eq_true rfl)) dL_writes_270 ⟨Nat.le_refl _, Nat.le_refl _⟩) hP hD hS hA [4, 5, 6, 7, 8] [0, 1, 2, 3] rfl rfl (by decide) (by decide) (fun r270 u270 H locs hw270 hP hD hS => ?_)
          obtain ⟨uf2270, rfl⟩ : ∃ z, z = u270 := ⟨_, rfl⟩
          have hP : va_P dg vwCl [(xt, .inr (6, [.ref xtc, .int (nI tl)])), (xtc, .inl (tq.1, 100, .inl tx)), (xh, .inr (0, [.ref xhc, .int (nI st2115), .int (nI nx2115)])), (xhc, .inl (tq.1, 7365, .inl hc2115)), (x0, .inr (7, [.ref xl, .ref xh, .ref xt, .ref xp, .ref xo, .ref xu, .ref xw])), (xl, .inr (1, [.ref xlc])), (xlc, .inl (tq.1, 1473, .inl cw115)), (xu, .inr (5, [.ref xus])), (xus, .inl (tq.1, 6, .inl uf2270))] H := hP
          have hD : va_D AA [(xt, .inr (6, [.ref xtc, .int (nI tl)])), (xtc, .inl (tq.1, 100, .inl tx)), (xh, .inr (0, [.ref xhc, .int (nI st2115), .int (nI nx2115)])), (xhc, .inl (tq.1, 7365, .inl hc2115)), (x0, .inr (7, [.ref xl, .ref xh, .ref xt, .ref xp, .ref xo, .ref xu, .ref xw])), (xl, .inr (1, [.ref xlc])), (xlc, .inl (tq.1, 1473, .inl cw115)), (xu, .inr (5, [.ref xus])), (xus, .inl (tq.1, 6, .inl uf2270))] := hD
          subst hw270
          refine r_top (show (etR s1 (nI (nE s)) (nI 6)) = (nI 1) from (et_ (by omega) (by omega) (by omega)).trans (et6 q6)) ?_
          refine lv_iconst (v := (nI 1)) hx hb dL_writes_273 (by decide) ?_
          refine r_icmp_ne (tgt := 323) hx hb (nI_tI (by omega)) (nI_tI (by omega)) dL_writes_274 (by decide) (fun c274 => False.elim (by omega)) (fun c274 => ?_)
          refine lv_aload_n hx hb dL_writes_277 rfl (lv_at hl 7 rfl) ?_
          refine lv_iload_n hx hb dL_writes_278 rfl (lv_at hl 5 rfl) ?_
          refine lv_bipush (v := (nI 8)) hx hb dL_writes_279 (by decide) ?_
          refine call_w (wr := [(xt, .inr (6, [.ref xtc, .int (nI tl)])), (xtc, .inl (tq.1, 100, .inl tx)), (xh, .inr (0, [.ref xhc, .int (nI st2115), .int (nI nx2115)])), (xhc, .inl (tq.1, 7365, .inl hc2115))]) (va_runV (As := [.int (nI (nE s)), .int (nI 8)]) (rest := []) ⟨hx, hb, hml, hown, hts⟩ (kX7_entry ln dg tq (x0 := x0) (xl := xl) (xh := xh) (xt := xt) (xp := xp) (xo := xo) (xu := xu) (xw := xw) (xlc := xlc) (c := cw115) (s := s1) (hF := hF1) (xus := xus) (uf := uf2270) (x := (nI (nE s))) (w := (nI 8)) H.size) (cwV 2 hts gL_writes_X7_entry rfl rfl rfl hdX7_entry ⟨Nat.le_of_ble_eq_true rfl, Nat.le_of_ble_eq_true rfl⟩) (preVB hK hN hP hD [4, 5, 6, 7, 8] rfl rfl rfl 4 rfl rfl [.int (nI (nE s)), .int (nI 8)]) rfl rfl hl.1 rfl (lv_room (Nat.le_of_ble_eq_true rfl)) dL_writes_281 ⟨Nat.le_refl _, Nat.le_refl _⟩) hP hD hS hA [4, 5, 6, 7, 8] [0, 1, 2, 3] rfl rfl (by decide) (by decide) (fun r281 u281 H locs hw281 hP hD hS => ?_)
          obtain ⟨uf2281, rfl⟩ : ∃ z, z = u281 := ⟨_, rfl⟩
          have hP : va_P dg vwCl [(xt, .inr (6, [.ref xtc, .int (nI tl)])), (xtc, .inl (tq.1, 100, .inl tx)), (xh, .inr (0, [.ref xhc, .int (nI st2115), .int (nI nx2115)])), (xhc, .inl (tq.1, 7365, .inl hc2115)), (x0, .inr (7, [.ref xl, .ref xh, .ref xt, .ref xp, .ref xo, .ref xu, .ref xw])), (xl, .inr (1, [.ref xlc])), (xlc, .inl (tq.1, 1473, .inl cw115)), (xu, .inr (5, [.ref xus])), (xus, .inl (tq.1, 6, .inl uf2281))] H := hP
          have hD : va_D AA [(xt, .inr (6, [.ref xtc, .int (nI tl)])), (xtc, .inl (tq.1, 100, .inl tx)), (xh, .inr (0, [.ref xhc, .int (nI st2115), .int (nI nx2115)])), (xhc, .inl (tq.1, 7365, .inl hc2115)), (x0, .inr (7, [.ref xl, .ref xh, .ref xt, .ref xp, .ref xo, .ref xu, .ref xw])), (xl, .inr (1, [.ref xlc])), (xlc, .inl (tq.1, 1473, .inl cw115)), (xu, .inr (5, [.ref xus])), (xus, .inl (tq.1, 6, .inl uf2281))] := hD
          subst hw281
          refine r_top (show (etR s1 (nI (nE s)) (nI 8)) = (me s1 (nE s) 6) from (et_ (by omega) (by omega) (by omega))) ?_
          refine r_top (show (me s1 (nE s) 6) = (-100009) from q7) ?_
          refine lv_ldc hx hb hown k19 dL_writes_284 ?_
          refine r_icmp_ne (tgt := 323) hx hb (by decide : ((-100009) : Int32).toInt = (-100009)) (by decide : ((-100009) : Int32).toInt = (-100009)) dL_writes_286 (by decide) (fun c286 => False.elim (by omega)) (fun c286 => ?_)
          refine lv_aload_n hx hb dL_writes_289 rfl (lv_at hl 7 rfl) ?_
          refine lv_iconst (v := (nI 3)) hx hb dL_writes_290 (by decide) ?_
          refine call_x (va_runV (As := [.int (nI 3)]) (rest := []) ⟨hx, hb, hml, hown, hts⟩ (kX7_count ln dg tq (x0 := x0) (xl := xl) (xh := xh) (xt := xt) (xp := xp) (xo := xo) (xu := xu) (xw := xw) (xlc := xlc) (c := cw115) (s := s1) (hF := hF1) (xhc := xhc) (st := st2115) (nx := nx2115) (hc := hc2115) (xtc := xtc) (tl := tl) (tx := tx) (x := (nI 3)) H.size) (cwV 1 hts gL_writes_X7_count rfl rfl rfl hdX7_count ⟨Nat.le_of_ble_eq_true rfl, Nat.le_of_ble_eq_true rfl⟩) (preVR hK hN hP [4, 5, 6, 2, 3, 0, 1] rfl 4 rfl rfl [.int (nI 3)]) rfl rfl hl.1 rfl (lv_room (Nat.le_of_ble_eq_true rfl)) dL_writes_291 ⟨Nat.le_refl _, Nat.le_refl _⟩) hP hS hA (fun H locs hP hS => ?_)
          refine r_top (show (ctR s1 st2115 tl (nI 3)) = (nI (nB s1)) from ct_ (by omega)) ?_
          refine r_if_eq (tgt := 319) hx hb (nI_tI (by omega)) dL_writes_294 (by decide) (fun c294 => False.elim (by omega)) (fun c294 => ?_)
          refine lv_aload_n hx hb dL_writes_297 rfl (lv_at hl 7 rfl) ?_
          refine lv_iconst (v := (nI 0)) hx hb dL_writes_298 (by decide) ?_
          refine lv_iconst (v := (nI 3)) hx hb dL_writes_299 (by decide) ?_
          refine call_x (va_runV (As := [.int (nI 0), .int (nI 3)]) (rest := []) ⟨hx, hb, hml, hown, hts⟩ (kX7_branch ln dg tq (x0 := x0) (xl := xl) (xh := xh) (xt := xt) (xp := xp) (xo := xo) (xu := xu) (xw := xw) (xlc := xlc) (c := cw115) (s := s1) (hF := hF1) (x := (nI 0)) (w := (nI 3)) H.size) (cwV 2 hts gL_writes_X7_branch rfl rfl rfl hdX7_branch ⟨Nat.le_of_ble_eq_true rfl, Nat.le_of_ble_eq_true rfl⟩) (preVR hK hN hP [4, 5, 6] rfl 4 rfl rfl [.int (nI 0), .int (nI 3)]) rfl rfl hl.1 rfl (lv_room (Nat.le_of_ble_eq_true rfl)) dL_writes_300 ⟨Nat.le_refl _, Nat.le_refl _⟩) hP hS hA (fun H locs hP hS => ?_)
          refine r_top (show (brR s1 (nI 0) (nI 3)) = (mb s1 0 2) from (br_ (by omega) (by omega) (by omega))) ?_
          refine lv_iload hx hb dL_writes_303 (lv_at hl 3 rfl) ?_
          refine lv_iload hx hb dL_writes_305 (lv_at hl 2 rfl) ?_
          refine r_if_ne (tgt := 314) hx hb rfl dL_writes_307 (by decide) (fun c307 => ?_) (fun c307 => ?_)
          · skip
            refine lv_iconst (v := (nI 0)) hx hb dL_writes_314 (by decide) ?_
            refine lv_iadd hx hb dL_writes_315 ?_
            refine lv_icmp_ne (tgt := 323) hx hb dL_writes_316 (by decide) (fun c316 => False.elim (by rw [q8 (by omega), if_neg (fun z => c307 ((st_wait (show 0 < nB s by omega) q2).mpr z))] at c316; exact c316 (Int32.add_zero _).symm)) (fun c316 => ?_)
            refine lv_iconst (v := (nI 1)) hx hb dL_writes_319 (by decide) ?_
            refine lv_goto (tgt := 324) hx hb dL_writes_320 (by decide) ?_
            exact hret (nI 1) (cw115, hc2115, st2115, nx2115, uf2281) H locs _ ls (show (nI 1) = (nI 1) ∧ (∃ s2, LX s2 cw115 st2115 nx2115) from (⟨rfl, s1, hL1⟩)) rfl (hP.sub [4, 5, 6, 2, 3, 0, 1, 7, 8] rfl) (hD.sub [4, 5, 6, 2, 3, 0, 1, 7, 8] (by decide) rfl) hS dL_writes_324
          · skip
            refine lv_iconst (v := (nI 1)) hx hb dL_writes_310 (by decide) ?_
            refine lv_goto (tgt := 315) hx hb dL_writes_311 (by decide) ?_
            refine lv_iadd hx hb dL_writes_315 ?_
            refine lv_icmp_ne (tgt := 323) hx hb dL_writes_316 (by decide) (fun c316 => False.elim (by rw [q8 (by omega), if_pos ((st_wait (show 0 < nB s by omega) q2).mp c307)] at c316; exact c316 rfl)) (fun c316 => ?_)
            refine lv_iconst (v := (nI 1)) hx hb dL_writes_319 (by decide) ?_
            refine lv_goto (tgt := 324) hx hb dL_writes_320 (by decide) ?_
            exact hret (nI 1) (cw115, hc2115, st2115, nx2115, uf2281) H locs _ ls (show (nI 1) = (nI 1) ∧ (∃ s2, LX s2 cw115 st2115 nx2115) from (⟨rfl, s1, hL1⟩)) rfl (hP.sub [4, 5, 6, 2, 3, 0, 1, 7, 8] rfl) (hD.sub [4, 5, 6, 2, 3, 0, 1, 7, 8] (by decide) rfl) hS dL_writes_324
        · skip
          obtain ⟨hne, hpl, hca⟩ := hneg c174
          refine lv_iload_n hx hb dL_writes_177 rfl (lv_at hl 6 rfl) ?_
          refine r_if_gt (tgt := 202) hx hb (nI_tI (by omega)) dL_writes_178 (by decide) (fun c178 => ?_) (fun c178 => ?_)
          · skip
            refine lv_aload_n hx hb dL_writes_202 rfl (lv_at hl 7 rfl) ?_
            refine lv_iconst (v := (nI 0)) hx hb dL_writes_203 (by decide) ?_
            refine call_x (va_runV (As := [.int (nI 0)]) (rest := []) ⟨hx, hb, hml, hown, hts⟩ (kX7_count ln dg tq (x0 := x0) (xl := xl) (xh := xh) (xt := xt) (xp := xp) (xo := xo) (xu := xu) (xw := xw) (xlc := xlc) (c := cw115) (s := s1) (hF := hF1) (xhc := xhc) (st := st2115) (nx := nx2115) (hc := hc2115) (xtc := xtc) (tl := tl) (tx := tx) (x := (nI 0)) H.size) (cwV 1 hts gL_writes_X7_count rfl rfl rfl hdX7_count ⟨Nat.le_of_ble_eq_true rfl, Nat.le_of_ble_eq_true rfl⟩) (preVR hK hN hP [2, 3, 4, 5, 6, 0, 1] rfl 2 rfl rfl [.int (nI 0)]) rfl rfl hl.1 rfl (lv_room (Nat.le_of_ble_eq_true rfl)) dL_writes_204 ⟨Nat.le_refl _, Nat.le_refl _⟩) hP hS hA (fun H locs hP hS => ?_)
            refine r_top (show (ctR s1 st2115 tl (nI 0)) = (nI (nE s1)) from ct_ (by omega)) ?_
            refine lv_iload_n hx hb dL_writes_207 rfl (lv_at hl 5 rfl) ?_
            refine r_icmp_ne (tgt := 234) hx hb (nI_tI (by omega)) (nI_tI (by omega)) dL_writes_208 (by decide) (fun c208 => False.elim (by omega)) (fun c208 => ?_)
            refine lv_aload_n hx hb dL_writes_211 rfl (lv_at hl 7 rfl) ?_
            refine lv_iconst (v := (nI 3)) hx hb dL_writes_212 (by decide) ?_
            refine call_x (va_runV (As := [.int (nI 3)]) (rest := []) ⟨hx, hb, hml, hown, hts⟩ (kX7_count ln dg tq (x0 := x0) (xl := xl) (xh := xh) (xt := xt) (xp := xp) (xo := xo) (xu := xu) (xw := xw) (xlc := xlc) (c := cw115) (s := s1) (hF := hF1) (xhc := xhc) (st := st2115) (nx := nx2115) (hc := hc2115) (xtc := xtc) (tl := tl) (tx := tx) (x := (nI 3)) H.size) (cwV 1 hts gL_writes_X7_count rfl rfl rfl hdX7_count ⟨Nat.le_of_ble_eq_true rfl, Nat.le_of_ble_eq_true rfl⟩) (preVR hK hN hP [2, 3, 4, 5, 6, 0, 1] rfl 2 rfl rfl [.int (nI 3)]) rfl rfl hl.1 rfl (lv_room (Nat.le_of_ble_eq_true rfl)) dL_writes_213 ⟨Nat.le_refl _, Nat.le_refl _⟩) hP hS hA (fun H locs hP hS => ?_)
            refine r_top (show (ctR s1 st2115 tl (nI 3)) = (nI (nB s1)) from ct_ (by omega)) ?_
            refine r_if_eq (tgt := 230) hx hb (nI_tI (by omega)) dL_writes_216 (by decide) (fun c216 => False.elim (by omega)) (fun c216 => ?_)
            refine lv_aload_n hx hb dL_writes_219 rfl (lv_at hl 7 rfl) ?_
            refine lv_iconst (v := (nI 0)) hx hb dL_writes_220 (by decide) ?_
            refine lv_iconst (v := (nI 3)) hx hb dL_writes_221 (by decide) ?_
            refine call_x (va_runV (As := [.int (nI 0), .int (nI 3)]) (rest := []) ⟨hx, hb, hml, hown, hts⟩ (kX7_branch ln dg tq (x0 := x0) (xl := xl) (xh := xh) (xt := xt) (xp := xp) (xo := xo) (xu := xu) (xw := xw) (xlc := xlc) (c := cw115) (s := s1) (hF := hF1) (x := (nI 0)) (w := (nI 3)) H.size) (cwV 2 hts gL_writes_X7_branch rfl rfl rfl hdX7_branch ⟨Nat.le_of_ble_eq_true rfl, Nat.le_of_ble_eq_true rfl⟩) (preVR hK hN hP [2, 3, 4] rfl 2 rfl rfl [.int (nI 0), .int (nI 3)]) rfl rfl hl.1 rfl (lv_room (Nat.le_of_ble_eq_true rfl)) dL_writes_222 ⟨Nat.le_refl _, Nat.le_refl _⟩) hP hS hA (fun H locs hP hS => ?_)
            refine r_top (show (brR s1 (nI 0) (nI 3)) = (mb s1 0 2) from (br_ (by omega) (by omega) (by omega))) ?_
            refine lv_iload hx hb dL_writes_225 (lv_at hl 3 rfl) ?_
            refine lv_icmp_ne (tgt := 234) hx hb dL_writes_227 (by decide) (fun c227 => False.elim (by exact c227 hpl)) (fun c227 => ?_)
            refine lv_iconst (v := (nI 1)) hx hb dL_writes_230 (by decide) ?_
            refine lv_goto (tgt := 235) hx hb dL_writes_231 (by decide) ?_
            exact hret (nI 1) (cw115, hc2115, st2115, nx2115, uf2115) H locs _ ls (show (nI 1) = (nI 1) ∧ (∃ s2, LX s2 cw115 st2115 nx2115) from (⟨rfl, s1, hL1⟩)) rfl (hP.sub [2, 3, 4, 5, 6, 0, 1, 7, 8] rfl) (hD.sub [2, 3, 4, 5, 6, 0, 1, 7, 8] (by decide) rfl) hS dL_writes_235
          · skip
            refine lv_iload_n hx hb dL_writes_181 rfl (lv_at hl 5 rfl) ?_
            refine lv_bipush (v := (nI 60)) hx hb dL_writes_182 (by decide) ?_
            refine r_icmp_ne (tgt := 190) hx hb (nI_tI (by omega)) (nI_tI (by omega)) dL_writes_184 (by decide) (fun c184 => ?_) (fun c184 => ?_)
            · skip
              refine lv_iload hx hb dL_writes_190 (lv_at hl 1 rfl) ?_
              refine lv_iconst (v := (nI 1)) hx hb dL_writes_192 (by decide) ?_
              refine r_icmp_eq (tgt := 202) hx hb (nI_tI (by omega)) (nI_tI (by omega)) dL_writes_193 (by decide) (fun c193 => ?_) (fun c193 => ?_)
              · skip
                refine lv_aload_n hx hb dL_writes_202 rfl (lv_at hl 7 rfl) ?_
                refine lv_iconst (v := (nI 0)) hx hb dL_writes_203 (by decide) ?_
                refine call_x (va_runV (As := [.int (nI 0)]) (rest := []) ⟨hx, hb, hml, hown, hts⟩ (kX7_count ln dg tq (x0 := x0) (xl := xl) (xh := xh) (xt := xt) (xp := xp) (xo := xo) (xu := xu) (xw := xw) (xlc := xlc) (c := cw115) (s := s1) (hF := hF1) (xhc := xhc) (st := st2115) (nx := nx2115) (hc := hc2115) (xtc := xtc) (tl := tl) (tx := tx) (x := (nI 0)) H.size) (cwV 1 hts gL_writes_X7_count rfl rfl rfl hdX7_count ⟨Nat.le_of_ble_eq_true rfl, Nat.le_of_ble_eq_true rfl⟩) (preVR hK hN hP [2, 3, 4, 5, 6, 0, 1] rfl 2 rfl rfl [.int (nI 0)]) rfl rfl hl.1 rfl (lv_room (Nat.le_of_ble_eq_true rfl)) dL_writes_204 ⟨Nat.le_refl _, Nat.le_refl _⟩) hP hS hA (fun H locs hP hS => ?_)
                refine r_top (show (ctR s1 st2115 tl (nI 0)) = (nI (nE s1)) from ct_ (by omega)) ?_
                refine lv_iload_n hx hb dL_writes_207 rfl (lv_at hl 5 rfl) ?_
                refine r_icmp_ne (tgt := 234) hx hb (nI_tI (by omega)) (nI_tI (by omega)) dL_writes_208 (by decide) (fun c208 => False.elim (by omega)) (fun c208 => ?_)
                refine lv_aload_n hx hb dL_writes_211 rfl (lv_at hl 7 rfl) ?_
                refine lv_iconst (v := (nI 3)) hx hb dL_writes_212 (by decide) ?_
                refine call_x (va_runV (As := [.int (nI 3)]) (rest := []) ⟨hx, hb, hml, hown, hts⟩ (kX7_count ln dg tq (x0 := x0) (xl := xl) (xh := xh) (xt := xt) (xp := xp) (xo := xo) (xu := xu) (xw := xw) (xlc := xlc) (c := cw115) (s := s1) (hF := hF1) (xhc := xhc) (st := st2115) (nx := nx2115) (hc := hc2115) (xtc := xtc) (tl := tl) (tx := tx) (x := (nI 3)) H.size) (cwV 1 hts gL_writes_X7_count rfl rfl rfl hdX7_count ⟨Nat.le_of_ble_eq_true rfl, Nat.le_of_ble_eq_true rfl⟩) (preVR hK hN hP [2, 3, 4, 5, 6, 0, 1] rfl 2 rfl rfl [.int (nI 3)]) rfl rfl hl.1 rfl (lv_room (Nat.le_of_ble_eq_true rfl)) dL_writes_213 ⟨Nat.le_refl _, Nat.le_refl _⟩) hP hS hA (fun H locs hP hS => ?_)
                refine r_top (show (ctR s1 st2115 tl (nI 3)) = (nI (nB s1)) from ct_ (by omega)) ?_
                refine r_if_eq (tgt := 230) hx hb (nI_tI (by omega)) dL_writes_216 (by decide) (fun c216 => False.elim (by omega)) (fun c216 => ?_)
                refine lv_aload_n hx hb dL_writes_219 rfl (lv_at hl 7 rfl) ?_
                refine lv_iconst (v := (nI 0)) hx hb dL_writes_220 (by decide) ?_
                refine lv_iconst (v := (nI 3)) hx hb dL_writes_221 (by decide) ?_
                refine call_x (va_runV (As := [.int (nI 0), .int (nI 3)]) (rest := []) ⟨hx, hb, hml, hown, hts⟩ (kX7_branch ln dg tq (x0 := x0) (xl := xl) (xh := xh) (xt := xt) (xp := xp) (xo := xo) (xu := xu) (xw := xw) (xlc := xlc) (c := cw115) (s := s1) (hF := hF1) (x := (nI 0)) (w := (nI 3)) H.size) (cwV 2 hts gL_writes_X7_branch rfl rfl rfl hdX7_branch ⟨Nat.le_of_ble_eq_true rfl, Nat.le_of_ble_eq_true rfl⟩) (preVR hK hN hP [2, 3, 4] rfl 2 rfl rfl [.int (nI 0), .int (nI 3)]) rfl rfl hl.1 rfl (lv_room (Nat.le_of_ble_eq_true rfl)) dL_writes_222 ⟨Nat.le_refl _, Nat.le_refl _⟩) hP hS hA (fun H locs hP hS => ?_)
                refine r_top (show (brR s1 (nI 0) (nI 3)) = (mb s1 0 2) from (br_ (by omega) (by omega) (by omega))) ?_
                refine lv_iload hx hb dL_writes_225 (lv_at hl 3 rfl) ?_
                refine lv_icmp_ne (tgt := 234) hx hb dL_writes_227 (by decide) (fun c227 => False.elim (by exact c227 hpl)) (fun c227 => ?_)
                refine lv_iconst (v := (nI 1)) hx hb dL_writes_230 (by decide) ?_
                refine lv_goto (tgt := 235) hx hb dL_writes_231 (by decide) ?_
                exact hret (nI 1) (cw115, hc2115, st2115, nx2115, uf2115) H locs _ ls (show (nI 1) = (nI 1) ∧ (∃ s2, LX s2 cw115 st2115 nx2115) from (⟨rfl, s1, hL1⟩)) rfl (hP.sub [2, 3, 4, 5, 6, 0, 1, 7, 8] rfl) (hD.sub [2, 3, 4, 5, 6, 0, 1, 7, 8] (by decide) rfl) hS dL_writes_235
              · skip
                refine lv_iload hx hb dL_writes_196 (lv_at hl 1 rfl) ?_
                refine lv_iconst (v := (nI 3)) hx hb dL_writes_198 (by decide) ?_
                refine r_icmp_ne (tgt := 234) hx hb (nI_tI (by omega)) (nI_tI (by omega)) dL_writes_199 (by decide) (fun c199 => False.elim (by omega)) (fun c199 => ?_)
                refine lv_aload_n hx hb dL_writes_202 rfl (lv_at hl 7 rfl) ?_
                refine lv_iconst (v := (nI 0)) hx hb dL_writes_203 (by decide) ?_
                refine call_x (va_runV (As := [.int (nI 0)]) (rest := []) ⟨hx, hb, hml, hown, hts⟩ (kX7_count ln dg tq (x0 := x0) (xl := xl) (xh := xh) (xt := xt) (xp := xp) (xo := xo) (xu := xu) (xw := xw) (xlc := xlc) (c := cw115) (s := s1) (hF := hF1) (xhc := xhc) (st := st2115) (nx := nx2115) (hc := hc2115) (xtc := xtc) (tl := tl) (tx := tx) (x := (nI 0)) H.size) (cwV 1 hts gL_writes_X7_count rfl rfl rfl hdX7_count ⟨Nat.le_of_ble_eq_true rfl, Nat.le_of_ble_eq_true rfl⟩) (preVR hK hN hP [2, 3, 4, 5, 6, 0, 1] rfl 2 rfl rfl [.int (nI 0)]) rfl rfl hl.1 rfl (lv_room (Nat.le_of_ble_eq_true rfl)) dL_writes_204 ⟨Nat.le_refl _, Nat.le_refl _⟩) hP hS hA (fun H locs hP hS => ?_)
                refine r_top (show (ctR s1 st2115 tl (nI 0)) = (nI (nE s1)) from ct_ (by omega)) ?_
                refine lv_iload_n hx hb dL_writes_207 rfl (lv_at hl 5 rfl) ?_
                refine r_icmp_ne (tgt := 234) hx hb (nI_tI (by omega)) (nI_tI (by omega)) dL_writes_208 (by decide) (fun c208 => False.elim (by omega)) (fun c208 => ?_)
                refine lv_aload_n hx hb dL_writes_211 rfl (lv_at hl 7 rfl) ?_
                refine lv_iconst (v := (nI 3)) hx hb dL_writes_212 (by decide) ?_
                refine call_x (va_runV (As := [.int (nI 3)]) (rest := []) ⟨hx, hb, hml, hown, hts⟩ (kX7_count ln dg tq (x0 := x0) (xl := xl) (xh := xh) (xt := xt) (xp := xp) (xo := xo) (xu := xu) (xw := xw) (xlc := xlc) (c := cw115) (s := s1) (hF := hF1) (xhc := xhc) (st := st2115) (nx := nx2115) (hc := hc2115) (xtc := xtc) (tl := tl) (tx := tx) (x := (nI 3)) H.size) (cwV 1 hts gL_writes_X7_count rfl rfl rfl hdX7_count ⟨Nat.le_of_ble_eq_true rfl, Nat.le_of_ble_eq_true rfl⟩) (preVR hK hN hP [2, 3, 4, 5, 6, 0, 1] rfl 2 rfl rfl [.int (nI 3)]) rfl rfl hl.1 rfl (lv_room (Nat.le_of_ble_eq_true rfl)) dL_writes_213 ⟨Nat.le_refl _, Nat.le_refl _⟩) hP hS hA (fun H locs hP hS => ?_)
                refine r_top (show (ctR s1 st2115 tl (nI 3)) = (nI (nB s1)) from ct_ (by omega)) ?_
                refine r_if_eq (tgt := 230) hx hb (nI_tI (by omega)) dL_writes_216 (by decide) (fun c216 => False.elim (by omega)) (fun c216 => ?_)
                refine lv_aload_n hx hb dL_writes_219 rfl (lv_at hl 7 rfl) ?_
                refine lv_iconst (v := (nI 0)) hx hb dL_writes_220 (by decide) ?_
                refine lv_iconst (v := (nI 3)) hx hb dL_writes_221 (by decide) ?_
                refine call_x (va_runV (As := [.int (nI 0), .int (nI 3)]) (rest := []) ⟨hx, hb, hml, hown, hts⟩ (kX7_branch ln dg tq (x0 := x0) (xl := xl) (xh := xh) (xt := xt) (xp := xp) (xo := xo) (xu := xu) (xw := xw) (xlc := xlc) (c := cw115) (s := s1) (hF := hF1) (x := (nI 0)) (w := (nI 3)) H.size) (cwV 2 hts gL_writes_X7_branch rfl rfl rfl hdX7_branch ⟨Nat.le_of_ble_eq_true rfl, Nat.le_of_ble_eq_true rfl⟩) (preVR hK hN hP [2, 3, 4] rfl 2 rfl rfl [.int (nI 0), .int (nI 3)]) rfl rfl hl.1 rfl (lv_room (Nat.le_of_ble_eq_true rfl)) dL_writes_222 ⟨Nat.le_refl _, Nat.le_refl _⟩) hP hS hA (fun H locs hP hS => ?_)
                refine r_top (show (brR s1 (nI 0) (nI 3)) = (mb s1 0 2) from (br_ (by omega) (by omega) (by omega))) ?_
                refine lv_iload hx hb dL_writes_225 (lv_at hl 3 rfl) ?_
                refine lv_icmp_ne (tgt := 234) hx hb dL_writes_227 (by decide) (fun c227 => False.elim (by exact c227 hpl)) (fun c227 => ?_)
                refine lv_iconst (v := (nI 1)) hx hb dL_writes_230 (by decide) ?_
                refine lv_goto (tgt := 235) hx hb dL_writes_231 (by decide) ?_
                exact hret (nI 1) (cw115, hc2115, st2115, nx2115, uf2115) H locs _ ls (show (nI 1) = (nI 1) ∧ (∃ s2, LX s2 cw115 st2115 nx2115) from (⟨rfl, s1, hL1⟩)) rfl (hP.sub [2, 3, 4, 5, 6, 0, 1, 7, 8] rfl) (hD.sub [2, 3, 4, 5, 6, 0, 1, 7, 8] (by decide) rfl) hS dL_writes_235
            · skip
              refine lv_goto (tgt := 202) hx hb dL_writes_187 (by decide) ?_
              refine lv_aload_n hx hb dL_writes_202 rfl (lv_at hl 7 rfl) ?_
              refine lv_iconst (v := (nI 0)) hx hb dL_writes_203 (by decide) ?_
              refine call_x (va_runV (As := [.int (nI 0)]) (rest := []) ⟨hx, hb, hml, hown, hts⟩ (kX7_count ln dg tq (x0 := x0) (xl := xl) (xh := xh) (xt := xt) (xp := xp) (xo := xo) (xu := xu) (xw := xw) (xlc := xlc) (c := cw115) (s := s1) (hF := hF1) (xhc := xhc) (st := st2115) (nx := nx2115) (hc := hc2115) (xtc := xtc) (tl := tl) (tx := tx) (x := (nI 0)) H.size) (cwV 1 hts gL_writes_X7_count rfl rfl rfl hdX7_count ⟨Nat.le_of_ble_eq_true rfl, Nat.le_of_ble_eq_true rfl⟩) (preVR hK hN hP [2, 3, 4, 5, 6, 0, 1] rfl 2 rfl rfl [.int (nI 0)]) rfl rfl hl.1 rfl (lv_room (Nat.le_of_ble_eq_true rfl)) dL_writes_204 ⟨Nat.le_refl _, Nat.le_refl _⟩) hP hS hA (fun H locs hP hS => ?_)
              refine r_top (show (ctR s1 st2115 tl (nI 0)) = (nI (nE s1)) from ct_ (by omega)) ?_
              refine lv_iload_n hx hb dL_writes_207 rfl (lv_at hl 5 rfl) ?_
              refine r_icmp_ne (tgt := 234) hx hb (nI_tI (by omega)) (nI_tI (by omega)) dL_writes_208 (by decide) (fun c208 => False.elim (by omega)) (fun c208 => ?_)
              refine lv_aload_n hx hb dL_writes_211 rfl (lv_at hl 7 rfl) ?_
              refine lv_iconst (v := (nI 3)) hx hb dL_writes_212 (by decide) ?_
              refine call_x (va_runV (As := [.int (nI 3)]) (rest := []) ⟨hx, hb, hml, hown, hts⟩ (kX7_count ln dg tq (x0 := x0) (xl := xl) (xh := xh) (xt := xt) (xp := xp) (xo := xo) (xu := xu) (xw := xw) (xlc := xlc) (c := cw115) (s := s1) (hF := hF1) (xhc := xhc) (st := st2115) (nx := nx2115) (hc := hc2115) (xtc := xtc) (tl := tl) (tx := tx) (x := (nI 3)) H.size) (cwV 1 hts gL_writes_X7_count rfl rfl rfl hdX7_count ⟨Nat.le_of_ble_eq_true rfl, Nat.le_of_ble_eq_true rfl⟩) (preVR hK hN hP [2, 3, 4, 5, 6, 0, 1] rfl 2 rfl rfl [.int (nI 3)]) rfl rfl hl.1 rfl (lv_room (Nat.le_of_ble_eq_true rfl)) dL_writes_213 ⟨Nat.le_refl _, Nat.le_refl _⟩) hP hS hA (fun H locs hP hS => ?_)
              refine r_top (show (ctR s1 st2115 tl (nI 3)) = (nI (nB s1)) from ct_ (by omega)) ?_
              refine r_if_eq (tgt := 230) hx hb (nI_tI (by omega)) dL_writes_216 (by decide) (fun c216 => False.elim (by omega)) (fun c216 => ?_)
              refine lv_aload_n hx hb dL_writes_219 rfl (lv_at hl 7 rfl) ?_
              refine lv_iconst (v := (nI 0)) hx hb dL_writes_220 (by decide) ?_
              refine lv_iconst (v := (nI 3)) hx hb dL_writes_221 (by decide) ?_
              refine call_x (va_runV (As := [.int (nI 0), .int (nI 3)]) (rest := []) ⟨hx, hb, hml, hown, hts⟩ (kX7_branch ln dg tq (x0 := x0) (xl := xl) (xh := xh) (xt := xt) (xp := xp) (xo := xo) (xu := xu) (xw := xw) (xlc := xlc) (c := cw115) (s := s1) (hF := hF1) (x := (nI 0)) (w := (nI 3)) H.size) (cwV 2 hts gL_writes_X7_branch rfl rfl rfl hdX7_branch ⟨Nat.le_of_ble_eq_true rfl, Nat.le_of_ble_eq_true rfl⟩) (preVR hK hN hP [2, 3, 4] rfl 2 rfl rfl [.int (nI 0), .int (nI 3)]) rfl rfl hl.1 rfl (lv_room (Nat.le_of_ble_eq_true rfl)) dL_writes_222 ⟨Nat.le_refl _, Nat.le_refl _⟩) hP hS hA (fun H locs hP hS => ?_)
              refine r_top (show (brR s1 (nI 0) (nI 3)) = (mb s1 0 2) from (br_ (by omega) (by omega) (by omega))) ?_
              refine lv_iload hx hb dL_writes_225 (lv_at hl 3 rfl) ?_
              refine lv_icmp_ne (tgt := 234) hx hb dL_writes_227 (by decide) (fun c227 => False.elim (by exact c227 hpl)) (fun c227 => ?_)
              refine lv_iconst (v := (nI 1)) hx hb dL_writes_230 (by decide) ?_
              refine lv_goto (tgt := 235) hx hb dL_writes_231 (by decide) ?_
              exact hret (nI 1) (cw115, hc2115, st2115, nx2115, uf2115) H locs _ ls (show (nI 1) = (nI 1) ∧ (∃ s2, LX s2 cw115 st2115 nx2115) from (⟨rfl, s1, hL1⟩)) rfl (hP.sub [2, 3, 4, 5, 6, 0, 1, 7, 8] rfl) (hD.sub [2, 3, 4, 5, 6, 0, 1, 7, 8] (by decide) rfl) hS dL_writes_235
    · skip
      refine lv_aload_n hx hb dL_writes_69 rfl (lv_at hl 6 rfl) ?_
      refine lv_iload_n hx hb dL_writes_70 rfl (lv_at hl 7 rfl) ?_
      refine lv_iconst (v := (nI 4)) hx hb dL_writes_71 (by decide) ?_
      refine r_idiv_n hx hb (by omega) (by omega) (by omega) dL_writes_72 ?_
      refine lv_bipush (v := (nI 6)) hx hb dL_writes_73 (by decide) ?_
      refine r_irem_n hx hb (by omega) (by omega) (by omega) dL_writes_75 ?_
      refine lv_iconst (v := (nI 1)) hx hb dL_writes_76 (by decide) ?_
      refine lv_iload_n hx hb dL_writes_77 rfl (lv_at hl 7 rfl) ?_
      refine lv_bipush (v := (nI 32)) hx hb dL_writes_78 (by decide) ?_
      refine r_idiv_n hx hb (by omega) (by omega) (by omega) dL_writes_80 ?_
      refine lv_sipush (v := (nI 500)) hx hb dL_writes_81 (by decide) ?_
      refine r_irem_n hx hb (by omega) (by omega) (by omega) dL_writes_84 ?_
      refine r_iadd_n hx hb dL_writes_85 ?_
      refine call_w (wr := [(xt, .inr (6, [.ref xtc, .int (nI tl)])), (xtc, .inl (tq.1, 100, .inl tx))]) (va_runV (As := [.int (nI ((z / 4) % 6)), .int (nI (1 + ((z / 32) % 500)))]) (rest := []) ⟨hx, hb, hml, hown, hts⟩ (kX7_deposit ln dg tq (x0 := x0) (xl := xl) (xh := xh) (xt := xt) (xp := xp) (xo := xo) (xu := xu) (xw := xw) (xlc := xlc) (c := c) (s := s) (hF := hF) (xhc := xhc) (st := st) (nx := nx) (hc := hc) (hst := (by omega)) (hnx := (by omega)) (xus := xus) (uf := uf) (to := (nI ((z / 4) % 6))) (am := (nI (1 + ((z / 32) % 500)))) H.size) (cwV 2 hts gL_writes_X7_deposit rfl rfl rfl hdX7_deposit ⟨Nat.le_of_ble_eq_true rfl, Nat.le_of_ble_eq_true rfl⟩) (preVB hK hN hP hD [0, 1, 2, 3, 4, 7, 8] rfl rfl rfl 0 rfl rfl [.int (nI ((z / 4) % 6)), .int (nI (1 + ((z / 32) % 500)))]) rfl rfl hl.1 rfl (lv_room (Nat.le_of_ble_eq_true rfl)) dL_writes_86 ⟨Nat.le_refl _, Nat.le_refl _⟩) hP hD hS hA [0, 1, 2, 3, 4, 7, 8] [5, 6] rfl rfl (by decide) (by decide) (fun r86 u86 H locs hw86 hP hD hS => ?_)
      obtain ⟨cw86, hc286, st286, nx286, uf286⟩ := u86
      have hP : va_P dg vwCl [(xt, .inr (6, [.ref xtc, .int (nI tl)])), (xtc, .inl (tq.1, 100, .inl tx)), (x0, .inr (7, [.ref xl, .ref xh, .ref xt, .ref xp, .ref xo, .ref xu, .ref xw])), (xl, .inr (1, [.ref xlc])), (xlc, .inl (tq.1, 1473, .inl cw86)), (xh, .inr (0, [.ref xhc, .int (nI st286), .int (nI nx286)])), (xhc, .inl (tq.1, 7365, .inl hc286)), (xu, .inr (5, [.ref xus])), (xus, .inl (tq.1, 6, .inl uf286))] H := hP
      have hD : va_D AA [(xt, .inr (6, [.ref xtc, .int (nI tl)])), (xtc, .inl (tq.1, 100, .inl tx)), (x0, .inr (7, [.ref xl, .ref xh, .ref xt, .ref xp, .ref xo, .ref xu, .ref xw])), (xl, .inr (1, [.ref xlc])), (xlc, .inl (tq.1, 1473, .inl cw86)), (xh, .inr (0, [.ref xhc, .int (nI st286), .int (nI nx286)])), (xhc, .inl (tq.1, 7365, .inl hc286)), (xu, .inr (5, [.ref xus])), (xus, .inl (tq.1, 6, .inl uf286))] := hD
      obtain ⟨hr86, hw86⟩ := hw86
      subst hr86
      obtain ⟨tv_, htv_⟩ : ∃ x : Int32, x = dpR s (nI (z / 4 % 6)) (nI (1 + z / 32 % 500)) := ⟨_, rfl⟩
      obtain ⟨s1, hL1, hB1, hneg, hpos, -⟩ := A_dp hL (by omega) (by omega) (by omega) htv_ hw86
      obtain ⟨hF1, hX1, hst1, hnx1⟩ := id hL1
      obtain ⟨hR1, hW1, -, -⟩ := id hF1
      have hn601 := hW1.n60
      have hn11 := hW1.n1
      have hb101 := hW1.b10
      have hs81 := hW1.s8
      have hhn1 := hW1.hn
      refine r_top (show (dpR s (nI ((z / 4) % 6)) (nI (1 + ((z / 32) % 500)))) = tv_ from htv_.symm) ?_
      refine lv_goto (tgt := 170) hx hb dL_writes_89 (by decide) ?_
      refine lv_istore (lv' := [(8, .int tv_), (7, .int (nI (z % 4))), (6, .int (brN s 0 4)), (5, .int (mb s 0 2)), (4, .int (nI (hE s))), (3, .int (nI (nE s))), (2, .int (nI (cntF (loudB s) (nB s)))), (0, .ref x0), (1, .int (nI z))]) hx hb dL_writes_170 hl (by decide) rfl (fun ls hl => ?_)
      refine lv_iload hx hb dL_writes_172 (lv_at hl 0 rfl) ?_
      refine r_if_ge (tgt := 236) hx hb rfl dL_writes_174 (by decide) (fun c174 => ?_) (fun c174 => ?_)
      · skip
        obtain ⟨q1, q2, q3, q4, q5, q6, q7, q8⟩ := hpos c174
        refine lv_iload_n hx hb dL_writes_236 rfl (lv_at hl 6 rfl) ?_
        refine r_if_ne (tgt := 323) hx hb (nI_tI (by omega)) dL_writes_237 (by decide) (fun c237 => False.elim (by omega)) (fun c237 => ?_)
        refine lv_iload hx hb dL_writes_240 (lv_at hl 0 rfl) ?_
        refine lv_iload_n hx hb dL_writes_242 rfl (lv_at hl 5 rfl) ?_
        refine r_icmp_ne (tgt := 323) hx hb rfl (nI_tI (by omega)) dL_writes_243 (by decide) (fun c243 => False.elim (by omega)) (fun c243 => ?_)
        refine lv_aload_n hx hb dL_writes_246 rfl (lv_at hl 7 rfl) ?_
        refine lv_iconst (v := (nI 1)) hx hb dL_writes_247 (by decide) ?_
        refine call_x (va_runV (As := [.int (nI 1)]) (rest := []) ⟨hx, hb, hml, hown, hts⟩ (kX7_count ln dg tq (x0 := x0) (xl := xl) (xh := xh) (xt := xt) (xp := xp) (xo := xo) (xu := xu) (xw := xw) (xlc := xlc) (c := cw86) (s := s1) (hF := hF1) (xhc := xhc) (st := st286) (nx := nx286) (hc := hc286) (xtc := xtc) (tl := tl) (tx := tx) (x := (nI 1)) H.size) (cwV 1 hts gL_writes_X7_count rfl rfl rfl hdX7_count ⟨Nat.le_of_ble_eq_true rfl, Nat.le_of_ble_eq_true rfl⟩) (preVR hK hN hP [2, 3, 4, 5, 6, 0, 1] rfl 2 rfl rfl [.int (nI 1)]) rfl rfl hl.1 rfl (lv_room (Nat.le_of_ble_eq_true rfl)) dL_writes_248 ⟨Nat.le_refl _, Nat.le_refl _⟩) hP hS hA (fun H locs hP hS => ?_)
        refine r_top (show (ctR s1 st286 tl (nI 1)) = (nI (hE s1)) from ct_ (by omega)) ?_
        refine lv_iload_n hx hb dL_writes_251 rfl (lv_at hl 5 rfl) ?_
        refine r_icmp_ne (tgt := 323) hx hb (nI_tI (by omega)) (nI_tI (by omega)) dL_writes_252 (by decide) (fun c252 => False.elim (by omega)) (fun c252 => ?_)
        refine lv_aload_n hx hb dL_writes_255 rfl (lv_at hl 7 rfl) ?_
        refine lv_iload_n hx hb dL_writes_256 rfl (lv_at hl 5 rfl) ?_
        refine lv_iconst (v := (nI 4)) hx hb dL_writes_257 (by decide) ?_
        refine call_w (wr := [(xt, .inr (6, [.ref xtc, .int (nI tl)])), (xtc, .inl (tq.1, 100, .inl tx)), (xh, .inr (0, [.ref xhc, .int (nI st286), .int (nI nx286)])), (xhc, .inl (tq.1, 7365, .inl hc286))]) (va_runV (As := [.int (nI (nE s)), .int (nI 4)]) (rest := []) ⟨hx, hb, hml, hown, hts⟩ (kX7_entry ln dg tq (x0 := x0) (xl := xl) (xh := xh) (xt := xt) (xp := xp) (xo := xo) (xu := xu) (xw := xw) (xlc := xlc) (c := cw86) (s := s1) (hF := hF1) (xus := xus) (uf := uf286) (x := (nI (nE s))) (w := (nI 4)) H.size) (cwV 2 hts gL_writes_X7_entry rfl rfl rfl hdX7_entry ⟨Nat.le_of_ble_eq_true rfl, Nat.le_of_ble_eq_true rfl⟩) (preVB hK hN hP hD [2, 3, 4, 7, 8] rfl rfl rfl 2 rfl rfl [.int (nI (nE s)), .int (nI 4)]) rfl rfl hl.1 rfl (lv_room (Nat.le_of_ble_eq_true rfl)) dL_writes_258 ⟨Nat.le_refl _, Nat.le_refl _⟩) hP hD hS hA [2, 3, 4, 7, 8] [0, 1, 5, 6] rfl rfl (by decide) (by decide) (fun r258 u258 H locs hw258 hP hD hS => ?_)
        obtain ⟨uf2258, rfl⟩ : ∃ z, z = u258 := ⟨_, rfl⟩
        have hP : va_P dg vwCl [(xt, .inr (6, [.ref xtc, .int (nI tl)])), (xtc, .inl (tq.1, 100, .inl tx)), (xh, .inr (0, [.ref xhc, .int (nI st286), .int (nI nx286)])), (xhc, .inl (tq.1, 7365, .inl hc286)), (x0, .inr (7, [.ref xl, .ref xh, .ref xt, .ref xp, .ref xo, .ref xu, .ref xw])), (xl, .inr (1, [.ref xlc])), (xlc, .inl (tq.1, 1473, .inl cw86)), (xu, .inr (5, [.ref xus])), (xus, .inl (tq.1, 6, .inl uf2258))] H := hP
        have hD : va_D AA [(xt, .inr (6, [.ref xtc, .int (nI tl)])), (xtc, .inl (tq.1, 100, .inl tx)), (xh, .inr (0, [.ref xhc, .int (nI st286), .int (nI nx286)])), (xhc, .inl (tq.1, 7365, .inl hc286)), (x0, .inr (7, [.ref xl, .ref xh, .ref xt, .ref xp, .ref xo, .ref xu, .ref xw])), (xl, .inr (1, [.ref xlc])), (xlc, .inl (tq.1, 1473, .inl cw86)), (xu, .inr (5, [.ref xus])), (xus, .inl (tq.1, 6, .inl uf2258))] := hD
        subst hw258
        refine r_top (show (etR s1 (nI (nE s)) (nI 4)) = (me s1 (nE s) 0) from (et_ (by omega) (by omega) (by omega))) ?_
        refine r_top (show (me s1 (nE s) 0) = (nI (hE s)) from q5) ?_
        refine lv_iload hx hb dL_writes_261 (lv_at hl 4 rfl) ?_
        refine r_icmp_ne (tgt := 323) hx hb (nI_tI (by omega)) (nI_tI (by omega)) dL_writes_263 (by decide) (fun c263 => False.elim (by omega)) (fun c263 => ?_)
        refine lv_aload_n hx hb dL_writes_266 rfl (lv_at hl 7 rfl) ?_
        refine lv_iload_n hx hb dL_writes_267 rfl (lv_at hl 5 rfl) ?_
        refine lv_bipush (v := (nI 6)) hx hb dL_writes_268 (by decide) ?_
        refine call_w (wr := [(xt, .inr (6, [.ref xtc, .int (nI tl)])), (xtc, .inl (tq.1, 100, .inl tx)), (xh, .inr (0, [.ref xhc, .int (nI st286), .int (nI nx286)])), (xhc, .inl (tq.1, 7365, .inl hc286))]) (va_runV (As := [.int (nI (nE s)), .int (nI 6)]) (rest := []) ⟨hx, hb, hml, hown, hts⟩ (kX7_entry ln dg tq (x0 := x0) (xl := xl) (xh := xh) (xt := xt) (xp := xp) (xo := xo) (xu := xu) (xw := xw) (xlc := xlc) (c := cw86) (s := s1) (hF := hF1) (xus := xus) (uf := uf2258) (x := (nI (nE s))) (w := (nI 6)) H.size) (cwV 2 hts gL_writes_X7_entry rfl rfl rfl hdX7_entry ⟨Nat.le_of_ble_eq_true rfl, Nat.le_of_ble_eq_true rfl⟩) (preVB hK hN hP hD [4, 5, 6, 7, 8] rfl rfl rfl 4 rfl rfl [.int (nI (nE s)), .int (nI 6)]) rfl rfl hl.1 rfl (lv_room (Nat.le_of_ble_eq_true rfl)) dL_writes_270 ⟨Nat.le_refl _, Nat.le_refl _⟩) hP hD hS hA [4, 5, 6, 7, 8] [0, 1, 2, 3] rfl rfl (by decide) (by decide) (fun r270 u270 H locs hw270 hP hD hS => ?_)
        obtain ⟨uf2270, rfl⟩ : ∃ z, z = u270 := ⟨_, rfl⟩
        have hP : va_P dg vwCl [(xt, .inr (6, [.ref xtc, .int (nI tl)])), (xtc, .inl (tq.1, 100, .inl tx)), (xh, .inr (0, [.ref xhc, .int (nI st286), .int (nI nx286)])), (xhc, .inl (tq.1, 7365, .inl hc286)), (x0, .inr (7, [.ref xl, .ref xh, .ref xt, .ref xp, .ref xo, .ref xu, .ref xw])), (xl, .inr (1, [.ref xlc])), (xlc, .inl (tq.1, 1473, .inl cw86)), (xu, .inr (5, [.ref xus])), (xus, .inl (tq.1, 6, .inl uf2270))] H := hP
        have hD : va_D AA [(xt, .inr (6, [.ref xtc, .int (nI tl)])), (xtc, .inl (tq.1, 100, .inl tx)), (xh, .inr (0, [.ref xhc, .int (nI st286), .int (nI nx286)])), (xhc, .inl (tq.1, 7365, .inl hc286)), (x0, .inr (7, [.ref xl, .ref xh, .ref xt, .ref xp, .ref xo, .ref xu, .ref xw])), (xl, .inr (1, [.ref xlc])), (xlc, .inl (tq.1, 1473, .inl cw86)), (xu, .inr (5, [.ref xus])), (xus, .inl (tq.1, 6, .inl uf2270))] := hD
        subst hw270
        refine r_top (show (etR s1 (nI (nE s)) (nI 6)) = (nI 1) from (et_ (by omega) (by omega) (by omega)).trans (et6 q6)) ?_
        refine lv_iconst (v := (nI 1)) hx hb dL_writes_273 (by decide) ?_
        refine r_icmp_ne (tgt := 323) hx hb (nI_tI (by omega)) (nI_tI (by omega)) dL_writes_274 (by decide) (fun c274 => False.elim (by omega)) (fun c274 => ?_)
        refine lv_aload_n hx hb dL_writes_277 rfl (lv_at hl 7 rfl) ?_
        refine lv_iload_n hx hb dL_writes_278 rfl (lv_at hl 5 rfl) ?_
        refine lv_bipush (v := (nI 8)) hx hb dL_writes_279 (by decide) ?_
        refine call_w (wr := [(xt, .inr (6, [.ref xtc, .int (nI tl)])), (xtc, .inl (tq.1, 100, .inl tx)), (xh, .inr (0, [.ref xhc, .int (nI st286), .int (nI nx286)])), (xhc, .inl (tq.1, 7365, .inl hc286))]) (va_runV (As := [.int (nI (nE s)), .int (nI 8)]) (rest := []) ⟨hx, hb, hml, hown, hts⟩ (kX7_entry ln dg tq (x0 := x0) (xl := xl) (xh := xh) (xt := xt) (xp := xp) (xo := xo) (xu := xu) (xw := xw) (xlc := xlc) (c := cw86) (s := s1) (hF := hF1) (xus := xus) (uf := uf2270) (x := (nI (nE s))) (w := (nI 8)) H.size) (cwV 2 hts gL_writes_X7_entry rfl rfl rfl hdX7_entry ⟨Nat.le_of_ble_eq_true rfl, Nat.le_of_ble_eq_true rfl⟩) (preVB hK hN hP hD [4, 5, 6, 7, 8] rfl rfl rfl 4 rfl rfl [.int (nI (nE s)), .int (nI 8)]) rfl rfl hl.1 rfl (lv_room (Nat.le_of_ble_eq_true rfl)) dL_writes_281 ⟨Nat.le_refl _, Nat.le_refl _⟩) hP hD hS hA [4, 5, 6, 7, 8] [0, 1, 2, 3] rfl rfl (by decide) (by decide) (fun r281 u281 H locs hw281 hP hD hS => ?_)
        obtain ⟨uf2281, rfl⟩ : ∃ z, z = u281 := ⟨_, rfl⟩
        have hP : va_P dg vwCl [(xt, .inr (6, [.ref xtc, .int (nI tl)])), (xtc, .inl (tq.1, 100, .inl tx)), (xh, .inr (0, [.ref xhc, .int (nI st286), .int (nI nx286)])), (xhc, .inl (tq.1, 7365, .inl hc286)), (x0, .inr (7, [.ref xl, .ref xh, .ref xt, .ref xp, .ref xo, .ref xu, .ref xw])), (xl, .inr (1, [.ref xlc])), (xlc, .inl (tq.1, 1473, .inl cw86)), (xu, .inr (5, [.ref xus])), (xus, .inl (tq.1, 6, .inl uf2281))] H := hP
        have hD : va_D AA [(xt, .inr (6, [.ref xtc, .int (nI tl)])), (xtc, .inl (tq.1, 100, .inl tx)), (xh, .inr (0, [.ref xhc, .int (nI st286), .int (nI nx286)])), (xhc, .inl (tq.1, 7365, .inl hc286)), (x0, .inr (7, [.ref xl, .ref xh, .ref xt, .ref xp, .ref xo, .ref xu, .ref xw])), (xl, .inr (1, [.ref xlc])), (xlc, .inl (tq.1, 1473, .inl cw86)), (xu, .inr (5, [.ref xus])), (xus, .inl (tq.1, 6, .inl uf2281))] := hD
        subst hw281
        refine r_top (show (etR s1 (nI (nE s)) (nI 8)) = (me s1 (nE s) 6) from (et_ (by omega) (by omega) (by omega))) ?_
        refine r_top (show (me s1 (nE s) 6) = (-100009) from q7) ?_
        refine lv_ldc hx hb hown k19 dL_writes_284 ?_
        refine r_icmp_ne (tgt := 323) hx hb (by decide : ((-100009) : Int32).toInt = (-100009)) (by decide : ((-100009) : Int32).toInt = (-100009)) dL_writes_286 (by decide) (fun c286 => False.elim (by omega)) (fun c286 => ?_)
        refine lv_aload_n hx hb dL_writes_289 rfl (lv_at hl 7 rfl) ?_
        refine lv_iconst (v := (nI 3)) hx hb dL_writes_290 (by decide) ?_
        refine call_x (va_runV (As := [.int (nI 3)]) (rest := []) ⟨hx, hb, hml, hown, hts⟩ (kX7_count ln dg tq (x0 := x0) (xl := xl) (xh := xh) (xt := xt) (xp := xp) (xo := xo) (xu := xu) (xw := xw) (xlc := xlc) (c := cw86) (s := s1) (hF := hF1) (xhc := xhc) (st := st286) (nx := nx286) (hc := hc286) (xtc := xtc) (tl := tl) (tx := tx) (x := (nI 3)) H.size) (cwV 1 hts gL_writes_X7_count rfl rfl rfl hdX7_count ⟨Nat.le_of_ble_eq_true rfl, Nat.le_of_ble_eq_true rfl⟩) (preVR hK hN hP [4, 5, 6, 2, 3, 0, 1] rfl 4 rfl rfl [.int (nI 3)]) rfl rfl hl.1 rfl (lv_room (Nat.le_of_ble_eq_true rfl)) dL_writes_291 ⟨Nat.le_refl _, Nat.le_refl _⟩) hP hS hA (fun H locs hP hS => ?_)
        refine r_top (show (ctR s1 st286 tl (nI 3)) = (nI (nB s1)) from ct_ (by omega)) ?_
        refine r_if_eq (tgt := 319) hx hb (nI_tI (by omega)) dL_writes_294 (by decide) (fun c294 => False.elim (by omega)) (fun c294 => ?_)
        refine lv_aload_n hx hb dL_writes_297 rfl (lv_at hl 7 rfl) ?_
        refine lv_iconst (v := (nI 0)) hx hb dL_writes_298 (by decide) ?_
        refine lv_iconst (v := (nI 3)) hx hb dL_writes_299 (by decide) ?_
        refine call_x (va_runV (As := [.int (nI 0), .int (nI 3)]) (rest := []) ⟨hx, hb, hml, hown, hts⟩ (kX7_branch ln dg tq (x0 := x0) (xl := xl) (xh := xh) (xt := xt) (xp := xp) (xo := xo) (xu := xu) (xw := xw) (xlc := xlc) (c := cw86) (s := s1) (hF := hF1) (x := (nI 0)) (w := (nI 3)) H.size) (cwV 2 hts gL_writes_X7_branch rfl rfl rfl hdX7_branch ⟨Nat.le_of_ble_eq_true rfl, Nat.le_of_ble_eq_true rfl⟩) (preVR hK hN hP [4, 5, 6] rfl 4 rfl rfl [.int (nI 0), .int (nI 3)]) rfl rfl hl.1 rfl (lv_room (Nat.le_of_ble_eq_true rfl)) dL_writes_300 ⟨Nat.le_refl _, Nat.le_refl _⟩) hP hS hA (fun H locs hP hS => ?_)
        refine r_top (show (brR s1 (nI 0) (nI 3)) = (mb s1 0 2) from (br_ (by omega) (by omega) (by omega))) ?_
        refine lv_iload hx hb dL_writes_303 (lv_at hl 3 rfl) ?_
        refine lv_iload hx hb dL_writes_305 (lv_at hl 2 rfl) ?_
        refine r_if_ne (tgt := 314) hx hb rfl dL_writes_307 (by decide) (fun c307 => ?_) (fun c307 => ?_)
        · skip
          refine lv_iconst (v := (nI 0)) hx hb dL_writes_314 (by decide) ?_
          refine lv_iadd hx hb dL_writes_315 ?_
          refine lv_icmp_ne (tgt := 323) hx hb dL_writes_316 (by decide) (fun c316 => False.elim (by rw [q8 (by omega), if_neg (fun z => c307 ((st_wait (show 0 < nB s by omega) q2).mpr z))] at c316; exact c316 (Int32.add_zero _).symm)) (fun c316 => ?_)
          refine lv_iconst (v := (nI 1)) hx hb dL_writes_319 (by decide) ?_
          refine lv_goto (tgt := 324) hx hb dL_writes_320 (by decide) ?_
          exact hret (nI 1) (cw86, hc286, st286, nx286, uf2281) H locs _ ls (show (nI 1) = (nI 1) ∧ (∃ s2, LX s2 cw86 st286 nx286) from (⟨rfl, s1, hL1⟩)) rfl (hP.sub [4, 5, 6, 2, 3, 0, 1, 7, 8] rfl) (hD.sub [4, 5, 6, 2, 3, 0, 1, 7, 8] (by decide) rfl) hS dL_writes_324
        · skip
          refine lv_iconst (v := (nI 1)) hx hb dL_writes_310 (by decide) ?_
          refine lv_goto (tgt := 315) hx hb dL_writes_311 (by decide) ?_
          refine lv_iadd hx hb dL_writes_315 ?_
          refine lv_icmp_ne (tgt := 323) hx hb dL_writes_316 (by decide) (fun c316 => False.elim (by rw [q8 (by omega), if_pos ((st_wait (show 0 < nB s by omega) q2).mp c307)] at c316; exact c316 rfl)) (fun c316 => ?_)
          refine lv_iconst (v := (nI 1)) hx hb dL_writes_319 (by decide) ?_
          refine lv_goto (tgt := 324) hx hb dL_writes_320 (by decide) ?_
          exact hret (nI 1) (cw86, hc286, st286, nx286, uf2281) H locs _ ls (show (nI 1) = (nI 1) ∧ (∃ s2, LX s2 cw86 st286 nx286) from (⟨rfl, s1, hL1⟩)) rfl (hP.sub [4, 5, 6, 2, 3, 0, 1, 7, 8] rfl) (hD.sub [4, 5, 6, 2, 3, 0, 1, 7, 8] (by decide) rfl) hS dL_writes_324
      · skip
        obtain ⟨hne, hpl, hca⟩ := hneg c174
        refine lv_iload_n hx hb dL_writes_177 rfl (lv_at hl 6 rfl) ?_
        refine r_if_gt (tgt := 202) hx hb (nI_tI (by omega)) dL_writes_178 (by decide) (fun c178 => ?_) (fun c178 => ?_)
        · skip
          refine lv_aload_n hx hb dL_writes_202 rfl (lv_at hl 7 rfl) ?_
          refine lv_iconst (v := (nI 0)) hx hb dL_writes_203 (by decide) ?_
          refine call_x (va_runV (As := [.int (nI 0)]) (rest := []) ⟨hx, hb, hml, hown, hts⟩ (kX7_count ln dg tq (x0 := x0) (xl := xl) (xh := xh) (xt := xt) (xp := xp) (xo := xo) (xu := xu) (xw := xw) (xlc := xlc) (c := cw86) (s := s1) (hF := hF1) (xhc := xhc) (st := st286) (nx := nx286) (hc := hc286) (xtc := xtc) (tl := tl) (tx := tx) (x := (nI 0)) H.size) (cwV 1 hts gL_writes_X7_count rfl rfl rfl hdX7_count ⟨Nat.le_of_ble_eq_true rfl, Nat.le_of_ble_eq_true rfl⟩) (preVR hK hN hP [2, 3, 4, 5, 6, 0, 1] rfl 2 rfl rfl [.int (nI 0)]) rfl rfl hl.1 rfl (lv_room (Nat.le_of_ble_eq_true rfl)) dL_writes_204 ⟨Nat.le_refl _, Nat.le_refl _⟩) hP hS hA (fun H locs hP hS => ?_)
          refine r_top (show (ctR s1 st286 tl (nI 0)) = (nI (nE s1)) from ct_ (by omega)) ?_
          refine lv_iload_n hx hb dL_writes_207 rfl (lv_at hl 5 rfl) ?_
          refine r_icmp_ne (tgt := 234) hx hb (nI_tI (by omega)) (nI_tI (by omega)) dL_writes_208 (by decide) (fun c208 => False.elim (by omega)) (fun c208 => ?_)
          refine lv_aload_n hx hb dL_writes_211 rfl (lv_at hl 7 rfl) ?_
          refine lv_iconst (v := (nI 3)) hx hb dL_writes_212 (by decide) ?_
          refine call_x (va_runV (As := [.int (nI 3)]) (rest := []) ⟨hx, hb, hml, hown, hts⟩ (kX7_count ln dg tq (x0 := x0) (xl := xl) (xh := xh) (xt := xt) (xp := xp) (xo := xo) (xu := xu) (xw := xw) (xlc := xlc) (c := cw86) (s := s1) (hF := hF1) (xhc := xhc) (st := st286) (nx := nx286) (hc := hc286) (xtc := xtc) (tl := tl) (tx := tx) (x := (nI 3)) H.size) (cwV 1 hts gL_writes_X7_count rfl rfl rfl hdX7_count ⟨Nat.le_of_ble_eq_true rfl, Nat.le_of_ble_eq_true rfl⟩) (preVR hK hN hP [2, 3, 4, 5, 6, 0, 1] rfl 2 rfl rfl [.int (nI 3)]) rfl rfl hl.1 rfl (lv_room (Nat.le_of_ble_eq_true rfl)) dL_writes_213 ⟨Nat.le_refl _, Nat.le_refl _⟩) hP hS hA (fun H locs hP hS => ?_)
          refine r_top (show (ctR s1 st286 tl (nI 3)) = (nI (nB s1)) from ct_ (by omega)) ?_
          refine r_if_eq (tgt := 230) hx hb (nI_tI (by omega)) dL_writes_216 (by decide) (fun c216 => False.elim (by omega)) (fun c216 => ?_)
          refine lv_aload_n hx hb dL_writes_219 rfl (lv_at hl 7 rfl) ?_
          refine lv_iconst (v := (nI 0)) hx hb dL_writes_220 (by decide) ?_
          refine lv_iconst (v := (nI 3)) hx hb dL_writes_221 (by decide) ?_
          refine call_x (va_runV (As := [.int (nI 0), .int (nI 3)]) (rest := []) ⟨hx, hb, hml, hown, hts⟩ (kX7_branch ln dg tq (x0 := x0) (xl := xl) (xh := xh) (xt := xt) (xp := xp) (xo := xo) (xu := xu) (xw := xw) (xlc := xlc) (c := cw86) (s := s1) (hF := hF1) (x := (nI 0)) (w := (nI 3)) H.size) (cwV 2 hts gL_writes_X7_branch rfl rfl rfl hdX7_branch ⟨Nat.le_of_ble_eq_true rfl, Nat.le_of_ble_eq_true rfl⟩) (preVR hK hN hP [2, 3, 4] rfl 2 rfl rfl [.int (nI 0), .int (nI 3)]) rfl rfl hl.1 rfl (lv_room (Nat.le_of_ble_eq_true rfl)) dL_writes_222 ⟨Nat.le_refl _, Nat.le_refl _⟩) hP hS hA (fun H locs hP hS => ?_)
          refine r_top (show (brR s1 (nI 0) (nI 3)) = (mb s1 0 2) from (br_ (by omega) (by omega) (by omega))) ?_
          refine lv_iload hx hb dL_writes_225 (lv_at hl 3 rfl) ?_
          refine lv_icmp_ne (tgt := 234) hx hb dL_writes_227 (by decide) (fun c227 => False.elim (by exact c227 hpl)) (fun c227 => ?_)
          refine lv_iconst (v := (nI 1)) hx hb dL_writes_230 (by decide) ?_
          refine lv_goto (tgt := 235) hx hb dL_writes_231 (by decide) ?_
          exact hret (nI 1) (cw86, hc286, st286, nx286, uf286) H locs _ ls (show (nI 1) = (nI 1) ∧ (∃ s2, LX s2 cw86 st286 nx286) from (⟨rfl, s1, hL1⟩)) rfl (hP.sub [2, 3, 4, 5, 6, 0, 1, 7, 8] rfl) (hD.sub [2, 3, 4, 5, 6, 0, 1, 7, 8] (by decide) rfl) hS dL_writes_235
        · skip
          refine lv_iload_n hx hb dL_writes_181 rfl (lv_at hl 5 rfl) ?_
          refine lv_bipush (v := (nI 60)) hx hb dL_writes_182 (by decide) ?_
          refine r_icmp_ne (tgt := 190) hx hb (nI_tI (by omega)) (nI_tI (by omega)) dL_writes_184 (by decide) (fun c184 => ?_) (fun c184 => ?_)
          · skip
            refine lv_iload hx hb dL_writes_190 (lv_at hl 1 rfl) ?_
            refine lv_iconst (v := (nI 1)) hx hb dL_writes_192 (by decide) ?_
            refine r_icmp_eq (tgt := 202) hx hb (nI_tI (by omega)) (nI_tI (by omega)) dL_writes_193 (by decide) (fun c193 => ?_) (fun c193 => ?_)
            · skip
              refine lv_aload_n hx hb dL_writes_202 rfl (lv_at hl 7 rfl) ?_
              refine lv_iconst (v := (nI 0)) hx hb dL_writes_203 (by decide) ?_
              refine call_x (va_runV (As := [.int (nI 0)]) (rest := []) ⟨hx, hb, hml, hown, hts⟩ (kX7_count ln dg tq (x0 := x0) (xl := xl) (xh := xh) (xt := xt) (xp := xp) (xo := xo) (xu := xu) (xw := xw) (xlc := xlc) (c := cw86) (s := s1) (hF := hF1) (xhc := xhc) (st := st286) (nx := nx286) (hc := hc286) (xtc := xtc) (tl := tl) (tx := tx) (x := (nI 0)) H.size) (cwV 1 hts gL_writes_X7_count rfl rfl rfl hdX7_count ⟨Nat.le_of_ble_eq_true rfl, Nat.le_of_ble_eq_true rfl⟩) (preVR hK hN hP [2, 3, 4, 5, 6, 0, 1] rfl 2 rfl rfl [.int (nI 0)]) rfl rfl hl.1 rfl (lv_room (Nat.le_of_ble_eq_true rfl)) dL_writes_204 ⟨Nat.le_refl _, Nat.le_refl _⟩) hP hS hA (fun H locs hP hS => ?_)
              refine r_top (show (ctR s1 st286 tl (nI 0)) = (nI (nE s1)) from ct_ (by omega)) ?_
              refine lv_iload_n hx hb dL_writes_207 rfl (lv_at hl 5 rfl) ?_
              refine r_icmp_ne (tgt := 234) hx hb (nI_tI (by omega)) (nI_tI (by omega)) dL_writes_208 (by decide) (fun c208 => False.elim (by omega)) (fun c208 => ?_)
              refine lv_aload_n hx hb dL_writes_211 rfl (lv_at hl 7 rfl) ?_
              refine lv_iconst (v := (nI 3)) hx hb dL_writes_212 (by decide) ?_
              refine call_x (va_runV (As := [.int (nI 3)]) (rest := []) ⟨hx, hb, hml, hown, hts⟩ (kX7_count ln dg tq (x0 := x0) (xl := xl) (xh := xh) (xt := xt) (xp := xp) (xo := xo) (xu := xu) (xw := xw) (xlc := xlc) (c := cw86) (s := s1) (hF := hF1) (xhc := xhc) (st := st286) (nx := nx286) (hc := hc286) (xtc := xtc) (tl := tl) (tx := tx) (x := (nI 3)) H.size) (cwV 1 hts gL_writes_X7_count rfl rfl rfl hdX7_count ⟨Nat.le_of_ble_eq_true rfl, Nat.le_of_ble_eq_true rfl⟩) (preVR hK hN hP [2, 3, 4, 5, 6, 0, 1] rfl 2 rfl rfl [.int (nI 3)]) rfl rfl hl.1 rfl (lv_room (Nat.le_of_ble_eq_true rfl)) dL_writes_213 ⟨Nat.le_refl _, Nat.le_refl _⟩) hP hS hA (fun H locs hP hS => ?_)
              refine r_top (show (ctR s1 st286 tl (nI 3)) = (nI (nB s1)) from ct_ (by omega)) ?_
              refine r_if_eq (tgt := 230) hx hb (nI_tI (by omega)) dL_writes_216 (by decide) (fun c216 => False.elim (by omega)) (fun c216 => ?_)
              refine lv_aload_n hx hb dL_writes_219 rfl (lv_at hl 7 rfl) ?_
              refine lv_iconst (v := (nI 0)) hx hb dL_writes_220 (by decide) ?_
              refine lv_iconst (v := (nI 3)) hx hb dL_writes_221 (by decide) ?_
              refine call_x (va_runV (As := [.int (nI 0), .int (nI 3)]) (rest := []) ⟨hx, hb, hml, hown, hts⟩ (kX7_branch ln dg tq (x0 := x0) (xl := xl) (xh := xh) (xt := xt) (xp := xp) (xo := xo) (xu := xu) (xw := xw) (xlc := xlc) (c := cw86) (s := s1) (hF := hF1) (x := (nI 0)) (w := (nI 3)) H.size) (cwV 2 hts gL_writes_X7_branch rfl rfl rfl hdX7_branch ⟨Nat.le_of_ble_eq_true rfl, Nat.le_of_ble_eq_true rfl⟩) (preVR hK hN hP [2, 3, 4] rfl 2 rfl rfl [.int (nI 0), .int (nI 3)]) rfl rfl hl.1 rfl (lv_room (Nat.le_of_ble_eq_true rfl)) dL_writes_222 ⟨Nat.le_refl _, Nat.le_refl _⟩) hP hS hA (fun H locs hP hS => ?_)
              refine r_top (show (brR s1 (nI 0) (nI 3)) = (mb s1 0 2) from (br_ (by omega) (by omega) (by omega))) ?_
              refine lv_iload hx hb dL_writes_225 (lv_at hl 3 rfl) ?_
              refine lv_icmp_ne (tgt := 234) hx hb dL_writes_227 (by decide) (fun c227 => False.elim (by exact c227 hpl)) (fun c227 => ?_)
              refine lv_iconst (v := (nI 1)) hx hb dL_writes_230 (by decide) ?_
              refine lv_goto (tgt := 235) hx hb dL_writes_231 (by decide) ?_
              exact hret (nI 1) (cw86, hc286, st286, nx286, uf286) H locs _ ls (show (nI 1) = (nI 1) ∧ (∃ s2, LX s2 cw86 st286 nx286) from (⟨rfl, s1, hL1⟩)) rfl (hP.sub [2, 3, 4, 5, 6, 0, 1, 7, 8] rfl) (hD.sub [2, 3, 4, 5, 6, 0, 1, 7, 8] (by decide) rfl) hS dL_writes_235
            · skip
              refine lv_iload hx hb dL_writes_196 (lv_at hl 1 rfl) ?_
              refine lv_iconst (v := (nI 3)) hx hb dL_writes_198 (by decide) ?_
              refine r_icmp_ne (tgt := 234) hx hb (nI_tI (by omega)) (nI_tI (by omega)) dL_writes_199 (by decide) (fun c199 => False.elim (by omega)) (fun c199 => ?_)
              refine lv_aload_n hx hb dL_writes_202 rfl (lv_at hl 7 rfl) ?_
              refine lv_iconst (v := (nI 0)) hx hb dL_writes_203 (by decide) ?_
              refine call_x (va_runV (As := [.int (nI 0)]) (rest := []) ⟨hx, hb, hml, hown, hts⟩ (kX7_count ln dg tq (x0 := x0) (xl := xl) (xh := xh) (xt := xt) (xp := xp) (xo := xo) (xu := xu) (xw := xw) (xlc := xlc) (c := cw86) (s := s1) (hF := hF1) (xhc := xhc) (st := st286) (nx := nx286) (hc := hc286) (xtc := xtc) (tl := tl) (tx := tx) (x := (nI 0)) H.size) (cwV 1 hts gL_writes_X7_count rfl rfl rfl hdX7_count ⟨Nat.le_of_ble_eq_true rfl, Nat.le_of_ble_eq_true rfl⟩) (preVR hK hN hP [2, 3, 4, 5, 6, 0, 1] rfl 2 rfl rfl [.int (nI 0)]) rfl rfl hl.1 rfl (lv_room (Nat.le_of_ble_eq_true rfl)) dL_writes_204 ⟨Nat.le_refl _, Nat.le_refl _⟩) hP hS hA (fun H locs hP hS => ?_)
              refine r_top (show (ctR s1 st286 tl (nI 0)) = (nI (nE s1)) from ct_ (by omega)) ?_
              refine lv_iload_n hx hb dL_writes_207 rfl (lv_at hl 5 rfl) ?_
              refine r_icmp_ne (tgt := 234) hx hb (nI_tI (by omega)) (nI_tI (by omega)) dL_writes_208 (by decide) (fun c208 => False.elim (by omega)) (fun c208 => ?_)
              refine lv_aload_n hx hb dL_writes_211 rfl (lv_at hl 7 rfl) ?_
              refine lv_iconst (v := (nI 3)) hx hb dL_writes_212 (by decide) ?_
              refine call_x (va_runV (As := [.int (nI 3)]) (rest := []) ⟨hx, hb, hml, hown, hts⟩ (kX7_count ln dg tq (x0 := x0) (xl := xl) (xh := xh) (xt := xt) (xp := xp) (xo := xo) (xu := xu) (xw := xw) (xlc := xlc) (c := cw86) (s := s1) (hF := hF1) (xhc := xhc) (st := st286) (nx := nx286) (hc := hc286) (xtc := xtc) (tl := tl) (tx := tx) (x := (nI 3)) H.size) (cwV 1 hts gL_writes_X7_count rfl rfl rfl hdX7_count ⟨Nat.le_of_ble_eq_true rfl, Nat.le_of_ble_eq_true rfl⟩) (preVR hK hN hP [2, 3, 4, 5, 6, 0, 1] rfl 2 rfl rfl [.int (nI 3)]) rfl rfl hl.1 rfl (lv_room (Nat.le_of_ble_eq_true rfl)) dL_writes_213 ⟨Nat.le_refl _, Nat.le_refl _⟩) hP hS hA (fun H locs hP hS => ?_)
              refine r_top (show (ctR s1 st286 tl (nI 3)) = (nI (nB s1)) from ct_ (by omega)) ?_
              refine r_if_eq (tgt := 230) hx hb (nI_tI (by omega)) dL_writes_216 (by decide) (fun c216 => False.elim (by omega)) (fun c216 => ?_)
              refine lv_aload_n hx hb dL_writes_219 rfl (lv_at hl 7 rfl) ?_
              refine lv_iconst (v := (nI 0)) hx hb dL_writes_220 (by decide) ?_
              refine lv_iconst (v := (nI 3)) hx hb dL_writes_221 (by decide) ?_
              refine call_x (va_runV (As := [.int (nI 0), .int (nI 3)]) (rest := []) ⟨hx, hb, hml, hown, hts⟩ (kX7_branch ln dg tq (x0 := x0) (xl := xl) (xh := xh) (xt := xt) (xp := xp) (xo := xo) (xu := xu) (xw := xw) (xlc := xlc) (c := cw86) (s := s1) (hF := hF1) (x := (nI 0)) (w := (nI 3)) H.size) (cwV 2 hts gL_writes_X7_branch rfl rfl rfl hdX7_branch ⟨Nat.le_of_ble_eq_true rfl, Nat.le_of_ble_eq_true rfl⟩) (preVR hK hN hP [2, 3, 4] rfl 2 rfl rfl [.int (nI 0), .int (nI 3)]) rfl rfl hl.1 rfl (lv_room (Nat.le_of_ble_eq_true rfl)) dL_writes_222 ⟨Nat.le_refl _, Nat.le_refl _⟩) hP hS hA (fun H locs hP hS => ?_)
              refine r_top (show (brR s1 (nI 0) (nI 3)) = (mb s1 0 2) from (br_ (by omega) (by omega) (by omega))) ?_
              refine lv_iload hx hb dL_writes_225 (lv_at hl 3 rfl) ?_
              refine lv_icmp_ne (tgt := 234) hx hb dL_writes_227 (by decide) (fun c227 => False.elim (by exact c227 hpl)) (fun c227 => ?_)
              refine lv_iconst (v := (nI 1)) hx hb dL_writes_230 (by decide) ?_
              refine lv_goto (tgt := 235) hx hb dL_writes_231 (by decide) ?_
              exact hret (nI 1) (cw86, hc286, st286, nx286, uf286) H locs _ ls (show (nI 1) = (nI 1) ∧ (∃ s2, LX s2 cw86 st286 nx286) from (⟨rfl, s1, hL1⟩)) rfl (hP.sub [2, 3, 4, 5, 6, 0, 1, 7, 8] rfl) (hD.sub [2, 3, 4, 5, 6, 0, 1, 7, 8] (by decide) rfl) hS dL_writes_235
          · skip
            refine lv_goto (tgt := 202) hx hb dL_writes_187 (by decide) ?_
            refine lv_aload_n hx hb dL_writes_202 rfl (lv_at hl 7 rfl) ?_
            refine lv_iconst (v := (nI 0)) hx hb dL_writes_203 (by decide) ?_
            refine call_x (va_runV (As := [.int (nI 0)]) (rest := []) ⟨hx, hb, hml, hown, hts⟩ (kX7_count ln dg tq (x0 := x0) (xl := xl) (xh := xh) (xt := xt) (xp := xp) (xo := xo) (xu := xu) (xw := xw) (xlc := xlc) (c := cw86) (s := s1) (hF := hF1) (xhc := xhc) (st := st286) (nx := nx286) (hc := hc286) (xtc := xtc) (tl := tl) (tx := tx) (x := (nI 0)) H.size) (cwV 1 hts gL_writes_X7_count rfl rfl rfl hdX7_count ⟨Nat.le_of_ble_eq_true rfl, Nat.le_of_ble_eq_true rfl⟩) (preVR hK hN hP [2, 3, 4, 5, 6, 0, 1] rfl 2 rfl rfl [.int (nI 0)]) rfl rfl hl.1 rfl (lv_room (Nat.le_of_ble_eq_true rfl)) dL_writes_204 ⟨Nat.le_refl _, Nat.le_refl _⟩) hP hS hA (fun H locs hP hS => ?_)
            refine r_top (show (ctR s1 st286 tl (nI 0)) = (nI (nE s1)) from ct_ (by omega)) ?_
            refine lv_iload_n hx hb dL_writes_207 rfl (lv_at hl 5 rfl) ?_
            refine r_icmp_ne (tgt := 234) hx hb (nI_tI (by omega)) (nI_tI (by omega)) dL_writes_208 (by decide) (fun c208 => False.elim (by omega)) (fun c208 => ?_)
            refine lv_aload_n hx hb dL_writes_211 rfl (lv_at hl 7 rfl) ?_
            refine lv_iconst (v := (nI 3)) hx hb dL_writes_212 (by decide) ?_
            refine call_x (va_runV (As := [.int (nI 3)]) (rest := []) ⟨hx, hb, hml, hown, hts⟩ (kX7_count ln dg tq (x0 := x0) (xl := xl) (xh := xh) (xt := xt) (xp := xp) (xo := xo) (xu := xu) (xw := xw) (xlc := xlc) (c := cw86) (s := s1) (hF := hF1) (xhc := xhc) (st := st286) (nx := nx286) (hc := hc286) (xtc := xtc) (tl := tl) (tx := tx) (x := (nI 3)) H.size) (cwV 1 hts gL_writes_X7_count rfl rfl rfl hdX7_count ⟨Nat.le_of_ble_eq_true rfl, Nat.le_of_ble_eq_true rfl⟩) (preVR hK hN hP [2, 3, 4, 5, 6, 0, 1] rfl 2 rfl rfl [.int (nI 3)]) rfl rfl hl.1 rfl (lv_room (Nat.le_of_ble_eq_true rfl)) dL_writes_213 ⟨Nat.le_refl _, Nat.le_refl _⟩) hP hS hA (fun H locs hP hS => ?_)
            refine r_top (show (ctR s1 st286 tl (nI 3)) = (nI (nB s1)) from ct_ (by omega)) ?_
            refine r_if_eq (tgt := 230) hx hb (nI_tI (by omega)) dL_writes_216 (by decide) (fun c216 => False.elim (by omega)) (fun c216 => ?_)
            refine lv_aload_n hx hb dL_writes_219 rfl (lv_at hl 7 rfl) ?_
            refine lv_iconst (v := (nI 0)) hx hb dL_writes_220 (by decide) ?_
            refine lv_iconst (v := (nI 3)) hx hb dL_writes_221 (by decide) ?_
            refine call_x (va_runV (As := [.int (nI 0), .int (nI 3)]) (rest := []) ⟨hx, hb, hml, hown, hts⟩ (kX7_branch ln dg tq (x0 := x0) (xl := xl) (xh := xh) (xt := xt) (xp := xp) (xo := xo) (xu := xu) (xw := xw) (xlc := xlc) (c := cw86) (s := s1) (hF := hF1) (x := (nI 0)) (w := (nI 3)) H.size) (cwV 2 hts gL_writes_X7_branch rfl rfl rfl hdX7_branch ⟨Nat.le_of_ble_eq_true rfl, Nat.le_of_ble_eq_true rfl⟩) (preVR hK hN hP [2, 3, 4] rfl 2 rfl rfl [.int (nI 0), .int (nI 3)]) rfl rfl hl.1 rfl (lv_room (Nat.le_of_ble_eq_true rfl)) dL_writes_222 ⟨Nat.le_refl _, Nat.le_refl _⟩) hP hS hA (fun H locs hP hS => ?_)
            refine r_top (show (brR s1 (nI 0) (nI 3)) = (mb s1 0 2) from (br_ (by omega) (by omega) (by omega))) ?_
            refine lv_iload hx hb dL_writes_225 (lv_at hl 3 rfl) ?_
            refine lv_icmp_ne (tgt := 234) hx hb dL_writes_227 (by decide) (fun c227 => False.elim (by exact c227 hpl)) (fun c227 => ?_)
            refine lv_iconst (v := (nI 1)) hx hb dL_writes_230 (by decide) ?_
            refine lv_goto (tgt := 235) hx hb dL_writes_231 (by decide) ?_
            exact hret (nI 1) (cw86, hc286, st286, nx286, uf286) H locs _ ls (show (nI 1) = (nI 1) ∧ (∃ s2, LX s2 cw86 st286 nx286) from (⟨rfl, s1, hL1⟩)) rfl (hP.sub [2, 3, 4, 5, 6, 0, 1, 7, 8] rfl) (hD.sub [2, 3, 4, 5, 6, 0, 1, 7, 8] (by decide) rfl) hS dL_writes_235
  · skip
    refine lv_iconst (v := (nI 0)) hx hb dL_writes_27 (by decide) ?_
    refine lv_goto (tgt := 37) hx hb dL_writes_28 (by decide) ?_
    refine lv_istore (lv' := [(5, .int (nI 0)), (4, .int (nI (hE s))), (3, .int (nI (nE s))), (2, .int (nI (cntF (loudB s) (nB s)))), (0, .ref x0), (1, .int (nI z))]) hx hb dL_writes_37 hl (by decide) rfl (fun ls hl => ?_)
    refine lv_aload_n hx hb dL_writes_39 rfl (lv_at hl 4 rfl) ?_
    refine lv_iconst (v := (nI 3)) hx hb dL_writes_40 (by decide) ?_
    refine call_x (va_runV (As := [.int (nI 3)]) (rest := []) ⟨hx, hb, hml, hown, hts⟩ (kX7_count ln dg tq (x0 := x0) (xl := xl) (xh := xh) (xt := xt) (xp := xp) (xo := xo) (xu := xu) (xw := xw) (xlc := xlc) (c := c) (s := s) (hF := hF) (xhc := xhc) (st := st) (nx := nx) (hc := hc) (xtc := xtc) (tl := tl) (tx := tx) (x := (nI 3)) H.size) (cwV 1 hts gL_writes_X7_count rfl rfl rfl hdX7_count ⟨Nat.le_of_ble_eq_true rfl, Nat.le_of_ble_eq_true rfl⟩) (preVR hK hN hP [0, 1, 2, 3, 4, 5, 6] rfl 0 rfl rfl [.int (nI 3)]) rfl rfl hl.1 rfl (lv_room (Nat.le_of_ble_eq_true rfl)) dL_writes_41 ⟨Nat.le_refl _, Nat.le_refl _⟩) hP hS hA (fun H locs hP hS => ?_)
    refine r_top (show (ctR s st tl (nI 3)) = (nI (nB s)) from ct_ (by omega)) ?_
    refine r_if_ne (tgt := 51) hx hb (nI_tI (by omega)) dL_writes_44 (by decide) (fun c44 => False.elim (by omega)) (fun c44 => ?_)
    refine lv_iconst (v := (nI 2)) hx hb dL_writes_47 (by decide) ?_
    refine lv_goto (tgt := 57) hx hb dL_writes_48 (by decide) ?_
    refine lv_istore (lv' := [(6, .int (nI 2)), (5, .int (nI 0)), (4, .int (nI (hE s))), (3, .int (nI (nE s))), (2, .int (nI (cntF (loudB s) (nB s)))), (0, .ref x0), (1, .int (nI z))]) hx hb dL_writes_57 hl (by decide) rfl (fun ls hl => ?_)
    refine lv_iload_n hx hb dL_writes_59 rfl (lv_at hl 6 rfl) ?_
    refine lv_iconst (v := (nI 4)) hx hb dL_writes_60 (by decide) ?_
    refine r_irem_n hx hb (by omega) (by omega) (by omega) dL_writes_61 ?_
    refine lv_istore (lv' := [(7, .int (nI (z % 4))), (6, .int (nI 2)), (5, .int (nI 0)), (4, .int (nI (hE s))), (3, .int (nI (nE s))), (2, .int (nI (cntF (loudB s) (nB s)))), (0, .ref x0), (1, .int (nI z))]) hx hb dL_writes_62 hl (by decide) rfl (fun ls hl => ?_)
    refine lv_iload hx hb dL_writes_64 (lv_at hl 0 rfl) ?_
    refine r_if_ne (tgt := 92) hx hb (nI_tI (by omega)) dL_writes_66 (by decide) (fun c66 => ?_) (fun c66 => ?_)
    · skip
      refine lv_iload hx hb dL_writes_92 (lv_at hl 0 rfl) ?_
      refine lv_iconst (v := (nI 1)) hx hb dL_writes_94 (by decide) ?_
      refine r_icmp_ne (tgt := 121) hx hb (nI_tI (by omega)) (nI_tI (by omega)) dL_writes_95 (by decide) (fun c95 => ?_) (fun c95 => ?_)
      · skip
        refine lv_iload hx hb dL_writes_121 (lv_at hl 0 rfl) ?_
        refine lv_iconst (v := (nI 2)) hx hb dL_writes_123 (by decide) ?_
        refine r_icmp_ne (tgt := 141) hx hb (nI_tI (by omega)) (nI_tI (by omega)) dL_writes_124 (by decide) (fun c124 => ?_) (fun c124 => ?_)
        · skip
          refine lv_aload_n hx hb dL_writes_141 rfl (lv_at hl 6 rfl) ?_
          refine lv_iconst (v := (nI 1)) hx hb dL_writes_142 (by decide) ?_
          refine lv_iload_n hx hb dL_writes_143 rfl (lv_at hl 7 rfl) ?_
          refine lv_iconst (v := (nI 4)) hx hb dL_writes_144 (by decide) ?_
          refine r_idiv_n hx hb (by omega) (by omega) (by omega) dL_writes_145 ?_
          refine lv_iconst (v := (nI 5)) hx hb dL_writes_146 (by decide) ?_
          refine r_irem_n hx hb (by omega) (by omega) (by omega) dL_writes_147 ?_
          refine r_iadd_n hx hb dL_writes_148 ?_
          refine lv_iconst (v := (nI 1)) hx hb dL_writes_149 (by decide) ?_
          refine lv_iload_n hx hb dL_writes_150 rfl (lv_at hl 7 rfl) ?_
          refine lv_iconst (v := (nI 4)) hx hb dL_writes_151 (by decide) ?_
          refine r_idiv_n hx hb (by omega) (by omega) (by omega) dL_writes_152 ?_
          refine lv_iconst (v := (nI 1)) hx hb dL_writes_153 (by decide) ?_
          refine r_iadd_n hx hb dL_writes_154 ?_
          refine lv_iconst (v := (nI 5)) hx hb dL_writes_155 (by decide) ?_
          refine r_irem_n hx hb (by omega) (by omega) (by omega) dL_writes_156 ?_
          refine r_iadd_n hx hb dL_writes_157 ?_
          refine lv_iconst (v := (nI 1)) hx hb dL_writes_158 (by decide) ?_
          refine lv_iload_n hx hb dL_writes_159 rfl (lv_at hl 7 rfl) ?_
          refine lv_bipush (v := (nI 32)) hx hb dL_writes_160 (by decide) ?_
          refine r_idiv_n hx hb (by omega) (by omega) (by omega) dL_writes_162 ?_
          refine lv_bipush (v := (nI 90)) hx hb dL_writes_163 (by decide) ?_
          refine r_irem_n hx hb (by omega) (by omega) (by omega) dL_writes_165 ?_
          refine r_iadd_n hx hb dL_writes_166 ?_
          refine call_w (wr := [(xt, .inr (6, [.ref xtc, .int (nI tl)])), (xtc, .inl (tq.1, 100, .inl tx))]) (va_runV (As := [.int (nI (1 + ((z / 4) % 5))), .int (nI (1 + (((z / 4) + 1) % 5))), .int (nI (1 + ((z / 32) % 90)))]) (rest := []) ⟨hx, hb, hml, hown, hts⟩ (kX7_pay ln dg tq (x0 := x0) (xl := xl) (xh := xh) (xt := xt) (xp := xp) (xo := xo) (xu := xu) (xw := xw) (xlc := xlc) (c := c) (s := s) (hF := hF) (xhc := xhc) (st := st) (nx := nx) (hc := hc) (hst := (by omega)) (hnx := (by omega)) (xus := xus) (uf := uf) (f := (nI (1 + ((z / 4) % 5)))) (t := (nI (1 + (((z / 4) + 1) % 5)))) (am := (nI (1 + ((z / 32) % 90)))) H.size) (cwV 3 hts gL_writes_X7_pay rfl rfl rfl hdX7_pay ⟨Nat.le_of_ble_eq_true rfl, Nat.le_of_ble_eq_true rfl⟩) (preVB hK hN hP hD [0, 1, 2, 3, 4, 7, 8] rfl rfl rfl 0 rfl rfl [.int (nI (1 + ((z / 4) % 5))), .int (nI (1 + (((z / 4) + 1) % 5))), .int (nI (1 + ((z / 32) % 90)))]) rfl rfl hl.1 rfl (lv_room (Nat.le_of_ble_eq_true rfl)) dL_writes_167 ⟨Nat.le_refl _, Nat.le_refl _⟩) hP hD hS hA [0, 1, 2, 3, 4, 7, 8] [5, 6] rfl rfl (by decide) (by decide) (fun r167 u167 H locs hw167 hP hD hS => ?_)
          obtain ⟨cw167, hc2167, st2167, nx2167, uf2167⟩ := u167
          have hP : va_P dg vwCl [(xt, .inr (6, [.ref xtc, .int (nI tl)])), (xtc, .inl (tq.1, 100, .inl tx)), (x0, .inr (7, [.ref xl, .ref xh, .ref xt, .ref xp, .ref xo, .ref xu, .ref xw])), (xl, .inr (1, [.ref xlc])), (xlc, .inl (tq.1, 1473, .inl cw167)), (xh, .inr (0, [.ref xhc, .int (nI st2167), .int (nI nx2167)])), (xhc, .inl (tq.1, 7365, .inl hc2167)), (xu, .inr (5, [.ref xus])), (xus, .inl (tq.1, 6, .inl uf2167))] H := hP
          have hD : va_D AA [(xt, .inr (6, [.ref xtc, .int (nI tl)])), (xtc, .inl (tq.1, 100, .inl tx)), (x0, .inr (7, [.ref xl, .ref xh, .ref xt, .ref xp, .ref xo, .ref xu, .ref xw])), (xl, .inr (1, [.ref xlc])), (xlc, .inl (tq.1, 1473, .inl cw167)), (xh, .inr (0, [.ref xhc, .int (nI st2167), .int (nI nx2167)])), (xhc, .inl (tq.1, 7365, .inl hc2167)), (xu, .inr (5, [.ref xus])), (xus, .inl (tq.1, 6, .inl uf2167))] := hD
          obtain ⟨hr167, hw167⟩ := hw167
          subst hr167
          obtain ⟨tv_, htv_⟩ : ∃ x : Int32, x = pyR s (nI (1 + z / 4 % 5)) (nI (1 + (z / 4 + 1) % 5)) (nI (1 + z / 32 % 90)) := ⟨_, rfl⟩
          obtain ⟨s1, hL1, hB1, hneg, hpos, -⟩ := A_py hL (by omega) (by omega) (by omega) (by omega) (by omega) (by omega) (by omega) htv_ hw167
          obtain ⟨hF1, hX1, hst1, hnx1⟩ := id hL1
          obtain ⟨hR1, hW1, -, -⟩ := id hF1
          have hn601 := hW1.n60
          have hn11 := hW1.n1
          have hb101 := hW1.b10
          have hs81 := hW1.s8
          have hhn1 := hW1.hn
          refine r_top (show (pyR s (nI (1 + ((z / 4) % 5))) (nI (1 + (((z / 4) + 1) % 5))) (nI (1 + ((z / 32) % 90)))) = tv_ from htv_.symm) ?_
          refine lv_istore (lv' := [(8, .int tv_), (7, .int (nI (z % 4))), (6, .int (nI 2)), (5, .int (nI 0)), (4, .int (nI (hE s))), (3, .int (nI (nE s))), (2, .int (nI (cntF (loudB s) (nB s)))), (0, .ref x0), (1, .int (nI z))]) hx hb dL_writes_170 hl (by decide) rfl (fun ls hl => ?_)
          refine lv_iload hx hb dL_writes_172 (lv_at hl 0 rfl) ?_
          refine r_if_ge (tgt := 236) hx hb rfl dL_writes_174 (by decide) (fun c174 => ?_) (fun c174 => ?_)
          · skip
            obtain ⟨q1, q2, q3, q4, q5, q6, q7, q8⟩ := hpos c174
            refine lv_iload_n hx hb dL_writes_236 rfl (lv_at hl 6 rfl) ?_
            refine r_if_ne (tgt := 323) hx hb (nI_tI (by omega)) dL_writes_237 (by decide) (fun c237 => False.elim (by omega)) (fun c237 => ?_)
            refine lv_iload hx hb dL_writes_240 (lv_at hl 0 rfl) ?_
            refine lv_iload_n hx hb dL_writes_242 rfl (lv_at hl 5 rfl) ?_
            refine r_icmp_ne (tgt := 323) hx hb rfl (nI_tI (by omega)) dL_writes_243 (by decide) (fun c243 => False.elim (by omega)) (fun c243 => ?_)
            refine lv_aload_n hx hb dL_writes_246 rfl (lv_at hl 7 rfl) ?_
            refine lv_iconst (v := (nI 1)) hx hb dL_writes_247 (by decide) ?_
            refine call_x (va_runV (As := [.int (nI 1)]) (rest := []) ⟨hx, hb, hml, hown, hts⟩ (kX7_count ln dg tq (x0 := x0) (xl := xl) (xh := xh) (xt := xt) (xp := xp) (xo := xo) (xu := xu) (xw := xw) (xlc := xlc) (c := cw167) (s := s1) (hF := hF1) (xhc := xhc) (st := st2167) (nx := nx2167) (hc := hc2167) (xtc := xtc) (tl := tl) (tx := tx) (x := (nI 1)) H.size) (cwV 1 hts gL_writes_X7_count rfl rfl rfl hdX7_count ⟨Nat.le_of_ble_eq_true rfl, Nat.le_of_ble_eq_true rfl⟩) (preVR hK hN hP [2, 3, 4, 5, 6, 0, 1] rfl 2 rfl rfl [.int (nI 1)]) rfl rfl hl.1 rfl (lv_room (Nat.le_of_ble_eq_true rfl)) dL_writes_248 ⟨Nat.le_refl _, Nat.le_refl _⟩) hP hS hA (fun H locs hP hS => ?_)
            refine r_top (show (ctR s1 st2167 tl (nI 1)) = (nI (hE s1)) from ct_ (by omega)) ?_
            refine lv_iload_n hx hb dL_writes_251 rfl (lv_at hl 5 rfl) ?_
            refine r_icmp_ne (tgt := 323) hx hb (nI_tI (by omega)) (nI_tI (by omega)) dL_writes_252 (by decide) (fun c252 => False.elim (by omega)) (fun c252 => ?_)
            refine lv_aload_n hx hb dL_writes_255 rfl (lv_at hl 7 rfl) ?_
            refine lv_iload_n hx hb dL_writes_256 rfl (lv_at hl 5 rfl) ?_
            refine lv_iconst (v := (nI 4)) hx hb dL_writes_257 (by decide) ?_
            refine call_w (wr := [(xt, .inr (6, [.ref xtc, .int (nI tl)])), (xtc, .inl (tq.1, 100, .inl tx)), (xh, .inr (0, [.ref xhc, .int (nI st2167), .int (nI nx2167)])), (xhc, .inl (tq.1, 7365, .inl hc2167))]) (va_runV (As := [.int (nI (nE s)), .int (nI 4)]) (rest := []) ⟨hx, hb, hml, hown, hts⟩ (kX7_entry ln dg tq (x0 := x0) (xl := xl) (xh := xh) (xt := xt) (xp := xp) (xo := xo) (xu := xu) (xw := xw) (xlc := xlc) (c := cw167) (s := s1) (hF := hF1) (xus := xus) (uf := uf2167) (x := (nI (nE s))) (w := (nI 4)) H.size) (cwV 2 hts gL_writes_X7_entry rfl rfl rfl hdX7_entry ⟨Nat.le_of_ble_eq_true rfl, Nat.le_of_ble_eq_true rfl⟩) (preVB hK hN hP hD [2, 3, 4, 7, 8] rfl rfl rfl 2 rfl rfl [.int (nI (nE s)), .int (nI 4)]) rfl rfl hl.1 rfl (lv_room (Nat.le_of_ble_eq_true rfl)) dL_writes_258 ⟨Nat.le_refl _, Nat.le_refl _⟩) hP hD hS hA [2, 3, 4, 7, 8] [0, 1, 5, 6] rfl rfl (by decide) (by decide) (fun r258 u258 H locs hw258 hP hD hS => ?_)
            obtain ⟨uf2258, rfl⟩ : ∃ z, z = u258 := ⟨_, rfl⟩
            have hP : va_P dg vwCl [(xt, .inr (6, [.ref xtc, .int (nI tl)])), (xtc, .inl (tq.1, 100, .inl tx)), (xh, .inr (0, [.ref xhc, .int (nI st2167), .int (nI nx2167)])), (xhc, .inl (tq.1, 7365, .inl hc2167)), (x0, .inr (7, [.ref xl, .ref xh, .ref xt, .ref xp, .ref xo, .ref xu, .ref xw])), (xl, .inr (1, [.ref xlc])), (xlc, .inl (tq.1, 1473, .inl cw167)), (xu, .inr (5, [.ref xus])), (xus, .inl (tq.1, 6, .inl uf2258))] H := hP
            have hD : va_D AA [(xt, .inr (6, [.ref xtc, .int (nI tl)])), (xtc, .inl (tq.1, 100, .inl tx)), (xh, .inr (0, [.ref xhc, .int (nI st2167), .int (nI nx2167)])), (xhc, .inl (tq.1, 7365, .inl hc2167)), (x0, .inr (7, [.ref xl, .ref xh, .ref xt, .ref xp, .ref xo, .ref xu, .ref xw])), (xl, .inr (1, [.ref xlc])), (xlc, .inl (tq.1, 1473, .inl cw167)), (xu, .inr (5, [.ref xus])), (xus, .inl (tq.1, 6, .inl uf2258))] := hD
            subst hw258
            refine r_top (show (etR s1 (nI (nE s)) (nI 4)) = (me s1 (nE s) 0) from (et_ (by omega) (by omega) (by omega))) ?_
            refine r_top (show (me s1 (nE s) 0) = (nI (hE s)) from q5) ?_
            refine lv_iload hx hb dL_writes_261 (lv_at hl 4 rfl) ?_
            refine r_icmp_ne (tgt := 323) hx hb (nI_tI (by omega)) (nI_tI (by omega)) dL_writes_263 (by decide) (fun c263 => False.elim (by omega)) (fun c263 => ?_)
            refine lv_aload_n hx hb dL_writes_266 rfl (lv_at hl 7 rfl) ?_
            refine lv_iload_n hx hb dL_writes_267 rfl (lv_at hl 5 rfl) ?_
            refine lv_bipush (v := (nI 6)) hx hb dL_writes_268 (by decide) ?_
            refine call_w (wr := [(xt, .inr (6, [.ref xtc, .int (nI tl)])), (xtc, .inl (tq.1, 100, .inl tx)), (xh, .inr (0, [.ref xhc, .int (nI st2167), .int (nI nx2167)])), (xhc, .inl (tq.1, 7365, .inl hc2167))]) (va_runV (As := [.int (nI (nE s)), .int (nI 6)]) (rest := []) ⟨hx, hb, hml, hown, hts⟩ (kX7_entry ln dg tq (x0 := x0) (xl := xl) (xh := xh) (xt := xt) (xp := xp) (xo := xo) (xu := xu) (xw := xw) (xlc := xlc) (c := cw167) (s := s1) (hF := hF1) (xus := xus) (uf := uf2258) (x := (nI (nE s))) (w := (nI 6)) H.size) (cwV 2 hts gL_writes_X7_entry rfl rfl rfl hdX7_entry ⟨Nat.le_of_ble_eq_true rfl, Nat.le_of_ble_eq_true rfl⟩) (preVB hK hN hP hD [4, 5, 6, 7, 8] rfl rfl rfl 4 rfl rfl [.int (nI (nE s)), .int (nI 6)]) rfl rfl hl.1 rfl (lv_room (Nat.le_of_ble_eq_true rfl)) dL_writes_270 ⟨Nat.le_refl _, Nat.le_refl _⟩) hP hD hS hA [4, 5, 6, 7, 8] [0, 1, 2, 3] rfl rfl (by decide) (by decide) (fun r270 u270 H locs hw270 hP hD hS => ?_)
            obtain ⟨uf2270, rfl⟩ : ∃ z, z = u270 := ⟨_, rfl⟩
            have hP : va_P dg vwCl [(xt, .inr (6, [.ref xtc, .int (nI tl)])), (xtc, .inl (tq.1, 100, .inl tx)), (xh, .inr (0, [.ref xhc, .int (nI st2167), .int (nI nx2167)])), (xhc, .inl (tq.1, 7365, .inl hc2167)), (x0, .inr (7, [.ref xl, .ref xh, .ref xt, .ref xp, .ref xo, .ref xu, .ref xw])), (xl, .inr (1, [.ref xlc])), (xlc, .inl (tq.1, 1473, .inl cw167)), (xu, .inr (5, [.ref xus])), (xus, .inl (tq.1, 6, .inl uf2270))] H := hP
            have hD : va_D AA [(xt, .inr (6, [.ref xtc, .int (nI tl)])), (xtc, .inl (tq.1, 100, .inl tx)), (xh, .inr (0, [.ref xhc, .int (nI st2167), .int (nI nx2167)])), (xhc, .inl (tq.1, 7365, .inl hc2167)), (x0, .inr (7, [.ref xl, .ref xh, .ref xt, .ref xp, .ref xo, .ref xu, .ref xw])), (xl, .inr (1, [.ref xlc])), (xlc, .inl (tq.1, 1473, .inl cw167)), (xu, .inr (5, [.ref xus])), (xus, .inl (tq.1, 6, .inl uf2270))] := hD
            subst hw270
            refine r_top (show (etR s1 (nI (nE s)) (nI 6)) = (nI 1) from (et_ (by omega) (by omega) (by omega)).trans (et6 q6)) ?_
            refine lv_iconst (v := (nI 1)) hx hb dL_writes_273 (by decide) ?_
            refine r_icmp_ne (tgt := 323) hx hb (nI_tI (by omega)) (nI_tI (by omega)) dL_writes_274 (by decide) (fun c274 => False.elim (by omega)) (fun c274 => ?_)
            refine lv_aload_n hx hb dL_writes_277 rfl (lv_at hl 7 rfl) ?_
            refine lv_iload_n hx hb dL_writes_278 rfl (lv_at hl 5 rfl) ?_
            refine lv_bipush (v := (nI 8)) hx hb dL_writes_279 (by decide) ?_
            refine call_w (wr := [(xt, .inr (6, [.ref xtc, .int (nI tl)])), (xtc, .inl (tq.1, 100, .inl tx)), (xh, .inr (0, [.ref xhc, .int (nI st2167), .int (nI nx2167)])), (xhc, .inl (tq.1, 7365, .inl hc2167))]) (va_runV (As := [.int (nI (nE s)), .int (nI 8)]) (rest := []) ⟨hx, hb, hml, hown, hts⟩ (kX7_entry ln dg tq (x0 := x0) (xl := xl) (xh := xh) (xt := xt) (xp := xp) (xo := xo) (xu := xu) (xw := xw) (xlc := xlc) (c := cw167) (s := s1) (hF := hF1) (xus := xus) (uf := uf2270) (x := (nI (nE s))) (w := (nI 8)) H.size) (cwV 2 hts gL_writes_X7_entry rfl rfl rfl hdX7_entry ⟨Nat.le_of_ble_eq_true rfl, Nat.le_of_ble_eq_true rfl⟩) (preVB hK hN hP hD [4, 5, 6, 7, 8] rfl rfl rfl 4 rfl rfl [.int (nI (nE s)), .int (nI 8)]) rfl rfl hl.1 rfl (lv_room (Nat.le_of_ble_eq_true rfl)) dL_writes_281 ⟨Nat.le_refl _, Nat.le_refl _⟩) hP hD hS hA [4, 5, 6, 7, 8] [0, 1, 2, 3] rfl rfl (by decide) (by decide) (fun r281 u281 H locs hw281 hP hD hS => ?_)
            obtain ⟨uf2281, rfl⟩ : ∃ z, z = u281 := ⟨_, rfl⟩
            have hP : va_P dg vwCl [(xt, .inr (6, [.ref xtc, .int (nI tl)])), (xtc, .inl (tq.1, 100, .inl tx)), (xh, .inr (0, [.ref xhc, .int (nI st2167), .int (nI nx2167)])), (xhc, .inl (tq.1, 7365, .inl hc2167)), (x0, .inr (7, [.ref xl, .ref xh, .ref xt, .ref xp, .ref xo, .ref xu, .ref xw])), (xl, .inr (1, [.ref xlc])), (xlc, .inl (tq.1, 1473, .inl cw167)), (xu, .inr (5, [.ref xus])), (xus, .inl (tq.1, 6, .inl uf2281))] H := hP
            have hD : va_D AA [(xt, .inr (6, [.ref xtc, .int (nI tl)])), (xtc, .inl (tq.1, 100, .inl tx)), (xh, .inr (0, [.ref xhc, .int (nI st2167), .int (nI nx2167)])), (xhc, .inl (tq.1, 7365, .inl hc2167)), (x0, .inr (7, [.ref xl, .ref xh, .ref xt, .ref xp, .ref xo, .ref xu, .ref xw])), (xl, .inr (1, [.ref xlc])), (xlc, .inl (tq.1, 1473, .inl cw167)), (xu, .inr (5, [.ref xus])), (xus, .inl (tq.1, 6, .inl uf2281))] := hD
            subst hw281
            refine r_top (show (etR s1 (nI (nE s)) (nI 8)) = (me s1 (nE s) 6) from (et_ (by omega) (by omega) (by omega))) ?_
            refine r_top (show (me s1 (nE s) 6) = (-100009) from q7) ?_
            refine lv_ldc hx hb hown k19 dL_writes_284 ?_
            refine r_icmp_ne (tgt := 323) hx hb (by decide : ((-100009) : Int32).toInt = (-100009)) (by decide : ((-100009) : Int32).toInt = (-100009)) dL_writes_286 (by decide) (fun c286 => False.elim (by omega)) (fun c286 => ?_)
            refine lv_aload_n hx hb dL_writes_289 rfl (lv_at hl 7 rfl) ?_
            refine lv_iconst (v := (nI 3)) hx hb dL_writes_290 (by decide) ?_
            refine call_x (va_runV (As := [.int (nI 3)]) (rest := []) ⟨hx, hb, hml, hown, hts⟩ (kX7_count ln dg tq (x0 := x0) (xl := xl) (xh := xh) (xt := xt) (xp := xp) (xo := xo) (xu := xu) (xw := xw) (xlc := xlc) (c := cw167) (s := s1) (hF := hF1) (xhc := xhc) (st := st2167) (nx := nx2167) (hc := hc2167) (xtc := xtc) (tl := tl) (tx := tx) (x := (nI 3)) H.size) (cwV 1 hts gL_writes_X7_count rfl rfl rfl hdX7_count ⟨Nat.le_of_ble_eq_true rfl, Nat.le_of_ble_eq_true rfl⟩) (preVR hK hN hP [4, 5, 6, 2, 3, 0, 1] rfl 4 rfl rfl [.int (nI 3)]) rfl rfl hl.1 rfl (lv_room (Nat.le_of_ble_eq_true rfl)) dL_writes_291 ⟨Nat.le_refl _, Nat.le_refl _⟩) hP hS hA (fun H locs hP hS => ?_)
            refine r_top (show (ctR s1 st2167 tl (nI 3)) = (nI (nB s1)) from ct_ (by omega)) ?_
            refine r_if_eq (tgt := 319) hx hb (nI_tI (by omega)) dL_writes_294 (by decide) (fun c294 => ?_) (fun c294 => False.elim (by omega))
            refine lv_iconst (v := (nI 1)) hx hb dL_writes_319 (by decide) ?_
            refine lv_goto (tgt := 324) hx hb dL_writes_320 (by decide) ?_
            exact hret (nI 1) (cw167, hc2167, st2167, nx2167, uf2281) H locs _ ls (show (nI 1) = (nI 1) ∧ (∃ s2, LX s2 cw167 st2167 nx2167) from (⟨rfl, s1, hL1⟩)) rfl (hP.sub [4, 5, 6, 2, 3, 0, 1, 7, 8] rfl) (hD.sub [4, 5, 6, 2, 3, 0, 1, 7, 8] (by decide) rfl) hS dL_writes_324
          · skip
            obtain ⟨hne, hpl, hca⟩ := hneg c174
            refine lv_iload_n hx hb dL_writes_177 rfl (lv_at hl 6 rfl) ?_
            refine r_if_gt (tgt := 202) hx hb (nI_tI (by omega)) dL_writes_178 (by decide) (fun c178 => ?_) (fun c178 => ?_)
            · skip
              refine lv_aload_n hx hb dL_writes_202 rfl (lv_at hl 7 rfl) ?_
              refine lv_iconst (v := (nI 0)) hx hb dL_writes_203 (by decide) ?_
              refine call_x (va_runV (As := [.int (nI 0)]) (rest := []) ⟨hx, hb, hml, hown, hts⟩ (kX7_count ln dg tq (x0 := x0) (xl := xl) (xh := xh) (xt := xt) (xp := xp) (xo := xo) (xu := xu) (xw := xw) (xlc := xlc) (c := cw167) (s := s1) (hF := hF1) (xhc := xhc) (st := st2167) (nx := nx2167) (hc := hc2167) (xtc := xtc) (tl := tl) (tx := tx) (x := (nI 0)) H.size) (cwV 1 hts gL_writes_X7_count rfl rfl rfl hdX7_count ⟨Nat.le_of_ble_eq_true rfl, Nat.le_of_ble_eq_true rfl⟩) (preVR hK hN hP [2, 3, 4, 5, 6, 0, 1] rfl 2 rfl rfl [.int (nI 0)]) rfl rfl hl.1 rfl (lv_room (Nat.le_of_ble_eq_true rfl)) dL_writes_204 ⟨Nat.le_refl _, Nat.le_refl _⟩) hP hS hA (fun H locs hP hS => ?_)
              refine r_top (show (ctR s1 st2167 tl (nI 0)) = (nI (nE s1)) from ct_ (by omega)) ?_
              refine lv_iload_n hx hb dL_writes_207 rfl (lv_at hl 5 rfl) ?_
              refine r_icmp_ne (tgt := 234) hx hb (nI_tI (by omega)) (nI_tI (by omega)) dL_writes_208 (by decide) (fun c208 => False.elim (by omega)) (fun c208 => ?_)
              refine lv_aload_n hx hb dL_writes_211 rfl (lv_at hl 7 rfl) ?_
              refine lv_iconst (v := (nI 3)) hx hb dL_writes_212 (by decide) ?_
              refine call_x (va_runV (As := [.int (nI 3)]) (rest := []) ⟨hx, hb, hml, hown, hts⟩ (kX7_count ln dg tq (x0 := x0) (xl := xl) (xh := xh) (xt := xt) (xp := xp) (xo := xo) (xu := xu) (xw := xw) (xlc := xlc) (c := cw167) (s := s1) (hF := hF1) (xhc := xhc) (st := st2167) (nx := nx2167) (hc := hc2167) (xtc := xtc) (tl := tl) (tx := tx) (x := (nI 3)) H.size) (cwV 1 hts gL_writes_X7_count rfl rfl rfl hdX7_count ⟨Nat.le_of_ble_eq_true rfl, Nat.le_of_ble_eq_true rfl⟩) (preVR hK hN hP [2, 3, 4, 5, 6, 0, 1] rfl 2 rfl rfl [.int (nI 3)]) rfl rfl hl.1 rfl (lv_room (Nat.le_of_ble_eq_true rfl)) dL_writes_213 ⟨Nat.le_refl _, Nat.le_refl _⟩) hP hS hA (fun H locs hP hS => ?_)
              refine r_top (show (ctR s1 st2167 tl (nI 3)) = (nI (nB s1)) from ct_ (by omega)) ?_
              refine r_if_eq (tgt := 230) hx hb (nI_tI (by omega)) dL_writes_216 (by decide) (fun c216 => ?_) (fun c216 => False.elim (by omega))
              refine lv_iconst (v := (nI 1)) hx hb dL_writes_230 (by decide) ?_
              refine lv_goto (tgt := 235) hx hb dL_writes_231 (by decide) ?_
              exact hret (nI 1) (cw167, hc2167, st2167, nx2167, uf2167) H locs _ ls (show (nI 1) = (nI 1) ∧ (∃ s2, LX s2 cw167 st2167 nx2167) from (⟨rfl, s1, hL1⟩)) rfl (hP.sub [2, 3, 4, 5, 6, 0, 1, 7, 8] rfl) (hD.sub [2, 3, 4, 5, 6, 0, 1, 7, 8] (by decide) rfl) hS dL_writes_235
            · skip
              refine lv_iload_n hx hb dL_writes_181 rfl (lv_at hl 5 rfl) ?_
              refine lv_bipush (v := (nI 60)) hx hb dL_writes_182 (by decide) ?_
              refine r_icmp_ne (tgt := 190) hx hb (nI_tI (by omega)) (nI_tI (by omega)) dL_writes_184 (by decide) (fun c184 => ?_) (fun c184 => ?_)
              · skip
                refine lv_iload hx hb dL_writes_190 (lv_at hl 1 rfl) ?_
                refine lv_iconst (v := (nI 1)) hx hb dL_writes_192 (by decide) ?_
                refine r_icmp_eq (tgt := 202) hx hb (nI_tI (by omega)) (nI_tI (by omega)) dL_writes_193 (by decide) (fun c193 => ?_) (fun c193 => ?_)
                · skip
                  refine lv_aload_n hx hb dL_writes_202 rfl (lv_at hl 7 rfl) ?_
                  refine lv_iconst (v := (nI 0)) hx hb dL_writes_203 (by decide) ?_
                  refine call_x (va_runV (As := [.int (nI 0)]) (rest := []) ⟨hx, hb, hml, hown, hts⟩ (kX7_count ln dg tq (x0 := x0) (xl := xl) (xh := xh) (xt := xt) (xp := xp) (xo := xo) (xu := xu) (xw := xw) (xlc := xlc) (c := cw167) (s := s1) (hF := hF1) (xhc := xhc) (st := st2167) (nx := nx2167) (hc := hc2167) (xtc := xtc) (tl := tl) (tx := tx) (x := (nI 0)) H.size) (cwV 1 hts gL_writes_X7_count rfl rfl rfl hdX7_count ⟨Nat.le_of_ble_eq_true rfl, Nat.le_of_ble_eq_true rfl⟩) (preVR hK hN hP [2, 3, 4, 5, 6, 0, 1] rfl 2 rfl rfl [.int (nI 0)]) rfl rfl hl.1 rfl (lv_room (Nat.le_of_ble_eq_true rfl)) dL_writes_204 ⟨Nat.le_refl _, Nat.le_refl _⟩) hP hS hA (fun H locs hP hS => ?_)
                  refine r_top (show (ctR s1 st2167 tl (nI 0)) = (nI (nE s1)) from ct_ (by omega)) ?_
                  refine lv_iload_n hx hb dL_writes_207 rfl (lv_at hl 5 rfl) ?_
                  refine r_icmp_ne (tgt := 234) hx hb (nI_tI (by omega)) (nI_tI (by omega)) dL_writes_208 (by decide) (fun c208 => False.elim (by omega)) (fun c208 => ?_)
                  refine lv_aload_n hx hb dL_writes_211 rfl (lv_at hl 7 rfl) ?_
                  refine lv_iconst (v := (nI 3)) hx hb dL_writes_212 (by decide) ?_
                  refine call_x (va_runV (As := [.int (nI 3)]) (rest := []) ⟨hx, hb, hml, hown, hts⟩ (kX7_count ln dg tq (x0 := x0) (xl := xl) (xh := xh) (xt := xt) (xp := xp) (xo := xo) (xu := xu) (xw := xw) (xlc := xlc) (c := cw167) (s := s1) (hF := hF1) (xhc := xhc) (st := st2167) (nx := nx2167) (hc := hc2167) (xtc := xtc) (tl := tl) (tx := tx) (x := (nI 3)) H.size) (cwV 1 hts gL_writes_X7_count rfl rfl rfl hdX7_count ⟨Nat.le_of_ble_eq_true rfl, Nat.le_of_ble_eq_true rfl⟩) (preVR hK hN hP [2, 3, 4, 5, 6, 0, 1] rfl 2 rfl rfl [.int (nI 3)]) rfl rfl hl.1 rfl (lv_room (Nat.le_of_ble_eq_true rfl)) dL_writes_213 ⟨Nat.le_refl _, Nat.le_refl _⟩) hP hS hA (fun H locs hP hS => ?_)
                  refine r_top (show (ctR s1 st2167 tl (nI 3)) = (nI (nB s1)) from ct_ (by omega)) ?_
                  refine r_if_eq (tgt := 230) hx hb (nI_tI (by omega)) dL_writes_216 (by decide) (fun c216 => ?_) (fun c216 => False.elim (by omega))
                  refine lv_iconst (v := (nI 1)) hx hb dL_writes_230 (by decide) ?_
                  refine lv_goto (tgt := 235) hx hb dL_writes_231 (by decide) ?_
                  exact hret (nI 1) (cw167, hc2167, st2167, nx2167, uf2167) H locs _ ls (show (nI 1) = (nI 1) ∧ (∃ s2, LX s2 cw167 st2167 nx2167) from (⟨rfl, s1, hL1⟩)) rfl (hP.sub [2, 3, 4, 5, 6, 0, 1, 7, 8] rfl) (hD.sub [2, 3, 4, 5, 6, 0, 1, 7, 8] (by decide) rfl) hS dL_writes_235
                · skip
                  refine lv_iload hx hb dL_writes_196 (lv_at hl 1 rfl) ?_
                  refine lv_iconst (v := (nI 3)) hx hb dL_writes_198 (by decide) ?_
                  refine r_icmp_ne (tgt := 234) hx hb (nI_tI (by omega)) (nI_tI (by omega)) dL_writes_199 (by decide) (fun c199 => False.elim (by omega)) (fun c199 => ?_)
                  refine lv_aload_n hx hb dL_writes_202 rfl (lv_at hl 7 rfl) ?_
                  refine lv_iconst (v := (nI 0)) hx hb dL_writes_203 (by decide) ?_
                  refine call_x (va_runV (As := [.int (nI 0)]) (rest := []) ⟨hx, hb, hml, hown, hts⟩ (kX7_count ln dg tq (x0 := x0) (xl := xl) (xh := xh) (xt := xt) (xp := xp) (xo := xo) (xu := xu) (xw := xw) (xlc := xlc) (c := cw167) (s := s1) (hF := hF1) (xhc := xhc) (st := st2167) (nx := nx2167) (hc := hc2167) (xtc := xtc) (tl := tl) (tx := tx) (x := (nI 0)) H.size) (cwV 1 hts gL_writes_X7_count rfl rfl rfl hdX7_count ⟨Nat.le_of_ble_eq_true rfl, Nat.le_of_ble_eq_true rfl⟩) (preVR hK hN hP [2, 3, 4, 5, 6, 0, 1] rfl 2 rfl rfl [.int (nI 0)]) rfl rfl hl.1 rfl (lv_room (Nat.le_of_ble_eq_true rfl)) dL_writes_204 ⟨Nat.le_refl _, Nat.le_refl _⟩) hP hS hA (fun H locs hP hS => ?_)
                  refine r_top (show (ctR s1 st2167 tl (nI 0)) = (nI (nE s1)) from ct_ (by omega)) ?_
                  refine lv_iload_n hx hb dL_writes_207 rfl (lv_at hl 5 rfl) ?_
                  refine r_icmp_ne (tgt := 234) hx hb (nI_tI (by omega)) (nI_tI (by omega)) dL_writes_208 (by decide) (fun c208 => False.elim (by omega)) (fun c208 => ?_)
                  refine lv_aload_n hx hb dL_writes_211 rfl (lv_at hl 7 rfl) ?_
                  refine lv_iconst (v := (nI 3)) hx hb dL_writes_212 (by decide) ?_
                  refine call_x (va_runV (As := [.int (nI 3)]) (rest := []) ⟨hx, hb, hml, hown, hts⟩ (kX7_count ln dg tq (x0 := x0) (xl := xl) (xh := xh) (xt := xt) (xp := xp) (xo := xo) (xu := xu) (xw := xw) (xlc := xlc) (c := cw167) (s := s1) (hF := hF1) (xhc := xhc) (st := st2167) (nx := nx2167) (hc := hc2167) (xtc := xtc) (tl := tl) (tx := tx) (x := (nI 3)) H.size) (cwV 1 hts gL_writes_X7_count rfl rfl rfl hdX7_count ⟨Nat.le_of_ble_eq_true rfl, Nat.le_of_ble_eq_true rfl⟩) (preVR hK hN hP [2, 3, 4, 5, 6, 0, 1] rfl 2 rfl rfl [.int (nI 3)]) rfl rfl hl.1 rfl (lv_room (Nat.le_of_ble_eq_true rfl)) dL_writes_213 ⟨Nat.le_refl _, Nat.le_refl _⟩) hP hS hA (fun H locs hP hS => ?_)
                  refine r_top (show (ctR s1 st2167 tl (nI 3)) = (nI (nB s1)) from ct_ (by omega)) ?_
                  refine r_if_eq (tgt := 230) hx hb (nI_tI (by omega)) dL_writes_216 (by decide) (fun c216 => ?_) (fun c216 => False.elim (by omega))
                  refine lv_iconst (v := (nI 1)) hx hb dL_writes_230 (by decide) ?_
                  refine lv_goto (tgt := 235) hx hb dL_writes_231 (by decide) ?_
                  exact hret (nI 1) (cw167, hc2167, st2167, nx2167, uf2167) H locs _ ls (show (nI 1) = (nI 1) ∧ (∃ s2, LX s2 cw167 st2167 nx2167) from (⟨rfl, s1, hL1⟩)) rfl (hP.sub [2, 3, 4, 5, 6, 0, 1, 7, 8] rfl) (hD.sub [2, 3, 4, 5, 6, 0, 1, 7, 8] (by decide) rfl) hS dL_writes_235
              · skip
                refine lv_goto (tgt := 202) hx hb dL_writes_187 (by decide) ?_
                refine lv_aload_n hx hb dL_writes_202 rfl (lv_at hl 7 rfl) ?_
                refine lv_iconst (v := (nI 0)) hx hb dL_writes_203 (by decide) ?_
                refine call_x (va_runV (As := [.int (nI 0)]) (rest := []) ⟨hx, hb, hml, hown, hts⟩ (kX7_count ln dg tq (x0 := x0) (xl := xl) (xh := xh) (xt := xt) (xp := xp) (xo := xo) (xu := xu) (xw := xw) (xlc := xlc) (c := cw167) (s := s1) (hF := hF1) (xhc := xhc) (st := st2167) (nx := nx2167) (hc := hc2167) (xtc := xtc) (tl := tl) (tx := tx) (x := (nI 0)) H.size) (cwV 1 hts gL_writes_X7_count rfl rfl rfl hdX7_count ⟨Nat.le_of_ble_eq_true rfl, Nat.le_of_ble_eq_true rfl⟩) (preVR hK hN hP [2, 3, 4, 5, 6, 0, 1] rfl 2 rfl rfl [.int (nI 0)]) rfl rfl hl.1 rfl (lv_room (Nat.le_of_ble_eq_true rfl)) dL_writes_204 ⟨Nat.le_refl _, Nat.le_refl _⟩) hP hS hA (fun H locs hP hS => ?_)
                refine r_top (show (ctR s1 st2167 tl (nI 0)) = (nI (nE s1)) from ct_ (by omega)) ?_
                refine lv_iload_n hx hb dL_writes_207 rfl (lv_at hl 5 rfl) ?_
                refine r_icmp_ne (tgt := 234) hx hb (nI_tI (by omega)) (nI_tI (by omega)) dL_writes_208 (by decide) (fun c208 => False.elim (by omega)) (fun c208 => ?_)
                refine lv_aload_n hx hb dL_writes_211 rfl (lv_at hl 7 rfl) ?_
                refine lv_iconst (v := (nI 3)) hx hb dL_writes_212 (by decide) ?_
                refine call_x (va_runV (As := [.int (nI 3)]) (rest := []) ⟨hx, hb, hml, hown, hts⟩ (kX7_count ln dg tq (x0 := x0) (xl := xl) (xh := xh) (xt := xt) (xp := xp) (xo := xo) (xu := xu) (xw := xw) (xlc := xlc) (c := cw167) (s := s1) (hF := hF1) (xhc := xhc) (st := st2167) (nx := nx2167) (hc := hc2167) (xtc := xtc) (tl := tl) (tx := tx) (x := (nI 3)) H.size) (cwV 1 hts gL_writes_X7_count rfl rfl rfl hdX7_count ⟨Nat.le_of_ble_eq_true rfl, Nat.le_of_ble_eq_true rfl⟩) (preVR hK hN hP [2, 3, 4, 5, 6, 0, 1] rfl 2 rfl rfl [.int (nI 3)]) rfl rfl hl.1 rfl (lv_room (Nat.le_of_ble_eq_true rfl)) dL_writes_213 ⟨Nat.le_refl _, Nat.le_refl _⟩) hP hS hA (fun H locs hP hS => ?_)
                refine r_top (show (ctR s1 st2167 tl (nI 3)) = (nI (nB s1)) from ct_ (by omega)) ?_
                refine r_if_eq (tgt := 230) hx hb (nI_tI (by omega)) dL_writes_216 (by decide) (fun c216 => ?_) (fun c216 => False.elim (by omega))
                refine lv_iconst (v := (nI 1)) hx hb dL_writes_230 (by decide) ?_
                refine lv_goto (tgt := 235) hx hb dL_writes_231 (by decide) ?_
                exact hret (nI 1) (cw167, hc2167, st2167, nx2167, uf2167) H locs _ ls (show (nI 1) = (nI 1) ∧ (∃ s2, LX s2 cw167 st2167 nx2167) from (⟨rfl, s1, hL1⟩)) rfl (hP.sub [2, 3, 4, 5, 6, 0, 1, 7, 8] rfl) (hD.sub [2, 3, 4, 5, 6, 0, 1, 7, 8] (by decide) rfl) hS dL_writes_235
        · skip
          refine lv_aload_n hx hb dL_writes_127 rfl (lv_at hl 6 rfl) ?_
          refine lv_iload_n hx hb dL_writes_128 rfl (lv_at hl 7 rfl) ?_
          refine lv_iconst (v := (nI 4)) hx hb dL_writes_129 (by decide) ?_
          refine r_idiv_n hx hb (by omega) (by omega) (by omega) dL_writes_130 ?_
          refine lv_sipush (v := (nI 1000)) hx hb dL_writes_131 (by decide) ?_
          refine r_irem_n hx hb (by omega) (by omega) (by omega) dL_writes_134 ?_
          refine call_w (wr := [(xt, .inr (6, [.ref xtc, .int (nI tl)])), (xtc, .inl (tq.1, 100, .inl tx))]) (va_runV (As := [.int (nI ((z / 4) % 1000))]) (rest := []) ⟨hx, hb, hml, hown, hts⟩ (kX7_note ln dg tq (x0 := x0) (xl := xl) (xh := xh) (xt := xt) (xp := xp) (xo := xo) (xu := xu) (xw := xw) (xlc := xlc) (c := c) (s := s) (hF := hF) (xhc := xhc) (st := st) (nx := nx) (hc := hc) (hst := (by omega)) (hnx := (by omega)) (xus := xus) (uf := uf) (am := (nI ((z / 4) % 1000))) H.size) (cwV 1 hts gL_writes_X7_note rfl rfl rfl hdX7_note ⟨Nat.le_of_ble_eq_true rfl, Nat.le_of_ble_eq_true rfl⟩) (preVB hK hN hP hD [0, 1, 2, 3, 4, 7, 8] rfl rfl rfl 0 rfl rfl [.int (nI ((z / 4) % 1000))]) rfl rfl hl.1 rfl (lv_room (Nat.le_of_ble_eq_true rfl)) dL_writes_135 ⟨Nat.le_refl _, Nat.le_refl _⟩) hP hD hS hA [0, 1, 2, 3, 4, 7, 8] [5, 6] rfl rfl (by decide) (by decide) (fun r135 u135 H locs hw135 hP hD hS => ?_)
          obtain ⟨cw135, hc2135, st2135, nx2135, uf2135⟩ := u135
          have hP : va_P dg vwCl [(xt, .inr (6, [.ref xtc, .int (nI tl)])), (xtc, .inl (tq.1, 100, .inl tx)), (x0, .inr (7, [.ref xl, .ref xh, .ref xt, .ref xp, .ref xo, .ref xu, .ref xw])), (xl, .inr (1, [.ref xlc])), (xlc, .inl (tq.1, 1473, .inl cw135)), (xh, .inr (0, [.ref xhc, .int (nI st2135), .int (nI nx2135)])), (xhc, .inl (tq.1, 7365, .inl hc2135)), (xu, .inr (5, [.ref xus])), (xus, .inl (tq.1, 6, .inl uf2135))] H := hP
          have hD : va_D AA [(xt, .inr (6, [.ref xtc, .int (nI tl)])), (xtc, .inl (tq.1, 100, .inl tx)), (x0, .inr (7, [.ref xl, .ref xh, .ref xt, .ref xp, .ref xo, .ref xu, .ref xw])), (xl, .inr (1, [.ref xlc])), (xlc, .inl (tq.1, 1473, .inl cw135)), (xh, .inr (0, [.ref xhc, .int (nI st2135), .int (nI nx2135)])), (xhc, .inl (tq.1, 7365, .inl hc2135)), (xu, .inr (5, [.ref xus])), (xus, .inl (tq.1, 6, .inl uf2135))] := hD
          obtain ⟨hr135, hw135⟩ := hw135
          subst hr135
          obtain ⟨tv_, htv_⟩ : ∃ x : Int32, x = ntR s (nI (z / 4 % 1000)) := ⟨_, rfl⟩
          obtain ⟨s1, hL1, hB1, hneg, hpos, -⟩ := A_nt hL (by omega) htv_ hw135
          obtain ⟨hF1, hX1, hst1, hnx1⟩ := id hL1
          obtain ⟨hR1, hW1, -, -⟩ := id hF1
          have hn601 := hW1.n60
          have hn11 := hW1.n1
          have hb101 := hW1.b10
          have hs81 := hW1.s8
          have hhn1 := hW1.hn
          refine r_top (show (ntR s (nI ((z / 4) % 1000))) = tv_ from htv_.symm) ?_
          refine lv_goto (tgt := 170) hx hb dL_writes_138 (by decide) ?_
          refine lv_istore (lv' := [(8, .int tv_), (7, .int (nI (z % 4))), (6, .int (nI 2)), (5, .int (nI 0)), (4, .int (nI (hE s))), (3, .int (nI (nE s))), (2, .int (nI (cntF (loudB s) (nB s)))), (0, .ref x0), (1, .int (nI z))]) hx hb dL_writes_170 hl (by decide) rfl (fun ls hl => ?_)
          refine lv_iload hx hb dL_writes_172 (lv_at hl 0 rfl) ?_
          refine r_if_ge (tgt := 236) hx hb rfl dL_writes_174 (by decide) (fun c174 => ?_) (fun c174 => ?_)
          · skip
            obtain ⟨q1, q2, q3, q4, q5, q6, q7, q8⟩ := hpos c174
            refine lv_iload_n hx hb dL_writes_236 rfl (lv_at hl 6 rfl) ?_
            refine r_if_ne (tgt := 323) hx hb (nI_tI (by omega)) dL_writes_237 (by decide) (fun c237 => False.elim (by omega)) (fun c237 => ?_)
            refine lv_iload hx hb dL_writes_240 (lv_at hl 0 rfl) ?_
            refine lv_iload_n hx hb dL_writes_242 rfl (lv_at hl 5 rfl) ?_
            refine r_icmp_ne (tgt := 323) hx hb rfl (nI_tI (by omega)) dL_writes_243 (by decide) (fun c243 => False.elim (by omega)) (fun c243 => ?_)
            refine lv_aload_n hx hb dL_writes_246 rfl (lv_at hl 7 rfl) ?_
            refine lv_iconst (v := (nI 1)) hx hb dL_writes_247 (by decide) ?_
            refine call_x (va_runV (As := [.int (nI 1)]) (rest := []) ⟨hx, hb, hml, hown, hts⟩ (kX7_count ln dg tq (x0 := x0) (xl := xl) (xh := xh) (xt := xt) (xp := xp) (xo := xo) (xu := xu) (xw := xw) (xlc := xlc) (c := cw135) (s := s1) (hF := hF1) (xhc := xhc) (st := st2135) (nx := nx2135) (hc := hc2135) (xtc := xtc) (tl := tl) (tx := tx) (x := (nI 1)) H.size) (cwV 1 hts gL_writes_X7_count rfl rfl rfl hdX7_count ⟨Nat.le_of_ble_eq_true rfl, Nat.le_of_ble_eq_true rfl⟩) (preVR hK hN hP [2, 3, 4, 5, 6, 0, 1] rfl 2 rfl rfl [.int (nI 1)]) rfl rfl hl.1 rfl (lv_room (Nat.le_of_ble_eq_true rfl)) dL_writes_248 ⟨Nat.le_refl _, Nat.le_refl _⟩) hP hS hA (fun H locs hP hS => ?_)
            refine r_top (show (ctR s1 st2135 tl (nI 1)) = (nI (hE s1)) from ct_ (by omega)) ?_
            refine lv_iload_n hx hb dL_writes_251 rfl (lv_at hl 5 rfl) ?_
            refine r_icmp_ne (tgt := 323) hx hb (nI_tI (by omega)) (nI_tI (by omega)) dL_writes_252 (by decide) (fun c252 => False.elim (by omega)) (fun c252 => ?_)
            refine lv_aload_n hx hb dL_writes_255 rfl (lv_at hl 7 rfl) ?_
            refine lv_iload_n hx hb dL_writes_256 rfl (lv_at hl 5 rfl) ?_
            refine lv_iconst (v := (nI 4)) hx hb dL_writes_257 (by decide) ?_
            refine call_w (wr := [(xt, .inr (6, [.ref xtc, .int (nI tl)])), (xtc, .inl (tq.1, 100, .inl tx)), (xh, .inr (0, [.ref xhc, .int (nI st2135), .int (nI nx2135)])), (xhc, .inl (tq.1, 7365, .inl hc2135))]) (va_runV (As := [.int (nI (nE s)), .int (nI 4)]) (rest := []) ⟨hx, hb, hml, hown, hts⟩ (kX7_entry ln dg tq (x0 := x0) (xl := xl) (xh := xh) (xt := xt) (xp := xp) (xo := xo) (xu := xu) (xw := xw) (xlc := xlc) (c := cw135) (s := s1) (hF := hF1) (xus := xus) (uf := uf2135) (x := (nI (nE s))) (w := (nI 4)) H.size) (cwV 2 hts gL_writes_X7_entry rfl rfl rfl hdX7_entry ⟨Nat.le_of_ble_eq_true rfl, Nat.le_of_ble_eq_true rfl⟩) (preVB hK hN hP hD [2, 3, 4, 7, 8] rfl rfl rfl 2 rfl rfl [.int (nI (nE s)), .int (nI 4)]) rfl rfl hl.1 rfl (lv_room (Nat.le_of_ble_eq_true rfl)) dL_writes_258 ⟨Nat.le_refl _, Nat.le_refl _⟩) hP hD hS hA [2, 3, 4, 7, 8] [0, 1, 5, 6] rfl rfl (by decide) (by decide) (fun r258 u258 H locs hw258 hP hD hS => ?_)
            obtain ⟨uf2258, rfl⟩ : ∃ z, z = u258 := ⟨_, rfl⟩
            have hP : va_P dg vwCl [(xt, .inr (6, [.ref xtc, .int (nI tl)])), (xtc, .inl (tq.1, 100, .inl tx)), (xh, .inr (0, [.ref xhc, .int (nI st2135), .int (nI nx2135)])), (xhc, .inl (tq.1, 7365, .inl hc2135)), (x0, .inr (7, [.ref xl, .ref xh, .ref xt, .ref xp, .ref xo, .ref xu, .ref xw])), (xl, .inr (1, [.ref xlc])), (xlc, .inl (tq.1, 1473, .inl cw135)), (xu, .inr (5, [.ref xus])), (xus, .inl (tq.1, 6, .inl uf2258))] H := hP
            have hD : va_D AA [(xt, .inr (6, [.ref xtc, .int (nI tl)])), (xtc, .inl (tq.1, 100, .inl tx)), (xh, .inr (0, [.ref xhc, .int (nI st2135), .int (nI nx2135)])), (xhc, .inl (tq.1, 7365, .inl hc2135)), (x0, .inr (7, [.ref xl, .ref xh, .ref xt, .ref xp, .ref xo, .ref xu, .ref xw])), (xl, .inr (1, [.ref xlc])), (xlc, .inl (tq.1, 1473, .inl cw135)), (xu, .inr (5, [.ref xus])), (xus, .inl (tq.1, 6, .inl uf2258))] := hD
            subst hw258
            refine r_top (show (etR s1 (nI (nE s)) (nI 4)) = (me s1 (nE s) 0) from (et_ (by omega) (by omega) (by omega))) ?_
            refine r_top (show (me s1 (nE s) 0) = (nI (hE s)) from q5) ?_
            refine lv_iload hx hb dL_writes_261 (lv_at hl 4 rfl) ?_
            refine r_icmp_ne (tgt := 323) hx hb (nI_tI (by omega)) (nI_tI (by omega)) dL_writes_263 (by decide) (fun c263 => False.elim (by omega)) (fun c263 => ?_)
            refine lv_aload_n hx hb dL_writes_266 rfl (lv_at hl 7 rfl) ?_
            refine lv_iload_n hx hb dL_writes_267 rfl (lv_at hl 5 rfl) ?_
            refine lv_bipush (v := (nI 6)) hx hb dL_writes_268 (by decide) ?_
            refine call_w (wr := [(xt, .inr (6, [.ref xtc, .int (nI tl)])), (xtc, .inl (tq.1, 100, .inl tx)), (xh, .inr (0, [.ref xhc, .int (nI st2135), .int (nI nx2135)])), (xhc, .inl (tq.1, 7365, .inl hc2135))]) (va_runV (As := [.int (nI (nE s)), .int (nI 6)]) (rest := []) ⟨hx, hb, hml, hown, hts⟩ (kX7_entry ln dg tq (x0 := x0) (xl := xl) (xh := xh) (xt := xt) (xp := xp) (xo := xo) (xu := xu) (xw := xw) (xlc := xlc) (c := cw135) (s := s1) (hF := hF1) (xus := xus) (uf := uf2258) (x := (nI (nE s))) (w := (nI 6)) H.size) (cwV 2 hts gL_writes_X7_entry rfl rfl rfl hdX7_entry ⟨Nat.le_of_ble_eq_true rfl, Nat.le_of_ble_eq_true rfl⟩) (preVB hK hN hP hD [4, 5, 6, 7, 8] rfl rfl rfl 4 rfl rfl [.int (nI (nE s)), .int (nI 6)]) rfl rfl hl.1 rfl (lv_room (Nat.le_of_ble_eq_true rfl)) dL_writes_270 ⟨Nat.le_refl _, Nat.le_refl _⟩) hP hD hS hA [4, 5, 6, 7, 8] [0, 1, 2, 3] rfl rfl (by decide) (by decide) (fun r270 u270 H locs hw270 hP hD hS => ?_)
            obtain ⟨uf2270, rfl⟩ : ∃ z, z = u270 := ⟨_, rfl⟩
            have hP : va_P dg vwCl [(xt, .inr (6, [.ref xtc, .int (nI tl)])), (xtc, .inl (tq.1, 100, .inl tx)), (xh, .inr (0, [.ref xhc, .int (nI st2135), .int (nI nx2135)])), (xhc, .inl (tq.1, 7365, .inl hc2135)), (x0, .inr (7, [.ref xl, .ref xh, .ref xt, .ref xp, .ref xo, .ref xu, .ref xw])), (xl, .inr (1, [.ref xlc])), (xlc, .inl (tq.1, 1473, .inl cw135)), (xu, .inr (5, [.ref xus])), (xus, .inl (tq.1, 6, .inl uf2270))] H := hP
            have hD : va_D AA [(xt, .inr (6, [.ref xtc, .int (nI tl)])), (xtc, .inl (tq.1, 100, .inl tx)), (xh, .inr (0, [.ref xhc, .int (nI st2135), .int (nI nx2135)])), (xhc, .inl (tq.1, 7365, .inl hc2135)), (x0, .inr (7, [.ref xl, .ref xh, .ref xt, .ref xp, .ref xo, .ref xu, .ref xw])), (xl, .inr (1, [.ref xlc])), (xlc, .inl (tq.1, 1473, .inl cw135)), (xu, .inr (5, [.ref xus])), (xus, .inl (tq.1, 6, .inl uf2270))] := hD
            subst hw270
            refine r_top (show (etR s1 (nI (nE s)) (nI 6)) = (nI 1) from (et_ (by omega) (by omega) (by omega)).trans (et6 q6)) ?_
            refine lv_iconst (v := (nI 1)) hx hb dL_writes_273 (by decide) ?_
            refine r_icmp_ne (tgt := 323) hx hb (nI_tI (by omega)) (nI_tI (by omega)) dL_writes_274 (by decide) (fun c274 => False.elim (by omega)) (fun c274 => ?_)
            refine lv_aload_n hx hb dL_writes_277 rfl (lv_at hl 7 rfl) ?_
            refine lv_iload_n hx hb dL_writes_278 rfl (lv_at hl 5 rfl) ?_
            refine lv_bipush (v := (nI 8)) hx hb dL_writes_279 (by decide) ?_
            refine call_w (wr := [(xt, .inr (6, [.ref xtc, .int (nI tl)])), (xtc, .inl (tq.1, 100, .inl tx)), (xh, .inr (0, [.ref xhc, .int (nI st2135), .int (nI nx2135)])), (xhc, .inl (tq.1, 7365, .inl hc2135))]) (va_runV (As := [.int (nI (nE s)), .int (nI 8)]) (rest := []) ⟨hx, hb, hml, hown, hts⟩ (kX7_entry ln dg tq (x0 := x0) (xl := xl) (xh := xh) (xt := xt) (xp := xp) (xo := xo) (xu := xu) (xw := xw) (xlc := xlc) (c := cw135) (s := s1) (hF := hF1) (xus := xus) (uf := uf2270) (x := (nI (nE s))) (w := (nI 8)) H.size) (cwV 2 hts gL_writes_X7_entry rfl rfl rfl hdX7_entry ⟨Nat.le_of_ble_eq_true rfl, Nat.le_of_ble_eq_true rfl⟩) (preVB hK hN hP hD [4, 5, 6, 7, 8] rfl rfl rfl 4 rfl rfl [.int (nI (nE s)), .int (nI 8)]) rfl rfl hl.1 rfl (lv_room (Nat.le_of_ble_eq_true rfl)) dL_writes_281 ⟨Nat.le_refl _, Nat.le_refl _⟩) hP hD hS hA [4, 5, 6, 7, 8] [0, 1, 2, 3] rfl rfl (by decide) (by decide) (fun r281 u281 H locs hw281 hP hD hS => ?_)
            obtain ⟨uf2281, rfl⟩ : ∃ z, z = u281 := ⟨_, rfl⟩
            have hP : va_P dg vwCl [(xt, .inr (6, [.ref xtc, .int (nI tl)])), (xtc, .inl (tq.1, 100, .inl tx)), (xh, .inr (0, [.ref xhc, .int (nI st2135), .int (nI nx2135)])), (xhc, .inl (tq.1, 7365, .inl hc2135)), (x0, .inr (7, [.ref xl, .ref xh, .ref xt, .ref xp, .ref xo, .ref xu, .ref xw])), (xl, .inr (1, [.ref xlc])), (xlc, .inl (tq.1, 1473, .inl cw135)), (xu, .inr (5, [.ref xus])), (xus, .inl (tq.1, 6, .inl uf2281))] H := hP
            have hD : va_D AA [(xt, .inr (6, [.ref xtc, .int (nI tl)])), (xtc, .inl (tq.1, 100, .inl tx)), (xh, .inr (0, [.ref xhc, .int (nI st2135), .int (nI nx2135)])), (xhc, .inl (tq.1, 7365, .inl hc2135)), (x0, .inr (7, [.ref xl, .ref xh, .ref xt, .ref xp, .ref xo, .ref xu, .ref xw])), (xl, .inr (1, [.ref xlc])), (xlc, .inl (tq.1, 1473, .inl cw135)), (xu, .inr (5, [.ref xus])), (xus, .inl (tq.1, 6, .inl uf2281))] := hD
            subst hw281
            refine r_top (show (etR s1 (nI (nE s)) (nI 8)) = (me s1 (nE s) 6) from (et_ (by omega) (by omega) (by omega))) ?_
            refine r_top (show (me s1 (nE s) 6) = (-100009) from q7) ?_
            refine lv_ldc hx hb hown k19 dL_writes_284 ?_
            refine r_icmp_ne (tgt := 323) hx hb (by decide : ((-100009) : Int32).toInt = (-100009)) (by decide : ((-100009) : Int32).toInt = (-100009)) dL_writes_286 (by decide) (fun c286 => False.elim (by omega)) (fun c286 => ?_)
            refine lv_aload_n hx hb dL_writes_289 rfl (lv_at hl 7 rfl) ?_
            refine lv_iconst (v := (nI 3)) hx hb dL_writes_290 (by decide) ?_
            refine call_x (va_runV (As := [.int (nI 3)]) (rest := []) ⟨hx, hb, hml, hown, hts⟩ (kX7_count ln dg tq (x0 := x0) (xl := xl) (xh := xh) (xt := xt) (xp := xp) (xo := xo) (xu := xu) (xw := xw) (xlc := xlc) (c := cw135) (s := s1) (hF := hF1) (xhc := xhc) (st := st2135) (nx := nx2135) (hc := hc2135) (xtc := xtc) (tl := tl) (tx := tx) (x := (nI 3)) H.size) (cwV 1 hts gL_writes_X7_count rfl rfl rfl hdX7_count ⟨Nat.le_of_ble_eq_true rfl, Nat.le_of_ble_eq_true rfl⟩) (preVR hK hN hP [4, 5, 6, 2, 3, 0, 1] rfl 4 rfl rfl [.int (nI 3)]) rfl rfl hl.1 rfl (lv_room (Nat.le_of_ble_eq_true rfl)) dL_writes_291 ⟨Nat.le_refl _, Nat.le_refl _⟩) hP hS hA (fun H locs hP hS => ?_)
            refine r_top (show (ctR s1 st2135 tl (nI 3)) = (nI (nB s1)) from ct_ (by omega)) ?_
            refine r_if_eq (tgt := 319) hx hb (nI_tI (by omega)) dL_writes_294 (by decide) (fun c294 => ?_) (fun c294 => False.elim (by omega))
            refine lv_iconst (v := (nI 1)) hx hb dL_writes_319 (by decide) ?_
            refine lv_goto (tgt := 324) hx hb dL_writes_320 (by decide) ?_
            exact hret (nI 1) (cw135, hc2135, st2135, nx2135, uf2281) H locs _ ls (show (nI 1) = (nI 1) ∧ (∃ s2, LX s2 cw135 st2135 nx2135) from (⟨rfl, s1, hL1⟩)) rfl (hP.sub [4, 5, 6, 2, 3, 0, 1, 7, 8] rfl) (hD.sub [4, 5, 6, 2, 3, 0, 1, 7, 8] (by decide) rfl) hS dL_writes_324
          · skip
            obtain ⟨hne, hpl, hca⟩ := hneg c174
            refine lv_iload_n hx hb dL_writes_177 rfl (lv_at hl 6 rfl) ?_
            refine r_if_gt (tgt := 202) hx hb (nI_tI (by omega)) dL_writes_178 (by decide) (fun c178 => ?_) (fun c178 => ?_)
            · skip
              refine lv_aload_n hx hb dL_writes_202 rfl (lv_at hl 7 rfl) ?_
              refine lv_iconst (v := (nI 0)) hx hb dL_writes_203 (by decide) ?_
              refine call_x (va_runV (As := [.int (nI 0)]) (rest := []) ⟨hx, hb, hml, hown, hts⟩ (kX7_count ln dg tq (x0 := x0) (xl := xl) (xh := xh) (xt := xt) (xp := xp) (xo := xo) (xu := xu) (xw := xw) (xlc := xlc) (c := cw135) (s := s1) (hF := hF1) (xhc := xhc) (st := st2135) (nx := nx2135) (hc := hc2135) (xtc := xtc) (tl := tl) (tx := tx) (x := (nI 0)) H.size) (cwV 1 hts gL_writes_X7_count rfl rfl rfl hdX7_count ⟨Nat.le_of_ble_eq_true rfl, Nat.le_of_ble_eq_true rfl⟩) (preVR hK hN hP [2, 3, 4, 5, 6, 0, 1] rfl 2 rfl rfl [.int (nI 0)]) rfl rfl hl.1 rfl (lv_room (Nat.le_of_ble_eq_true rfl)) dL_writes_204 ⟨Nat.le_refl _, Nat.le_refl _⟩) hP hS hA (fun H locs hP hS => ?_)
              refine r_top (show (ctR s1 st2135 tl (nI 0)) = (nI (nE s1)) from ct_ (by omega)) ?_
              refine lv_iload_n hx hb dL_writes_207 rfl (lv_at hl 5 rfl) ?_
              refine r_icmp_ne (tgt := 234) hx hb (nI_tI (by omega)) (nI_tI (by omega)) dL_writes_208 (by decide) (fun c208 => False.elim (by omega)) (fun c208 => ?_)
              refine lv_aload_n hx hb dL_writes_211 rfl (lv_at hl 7 rfl) ?_
              refine lv_iconst (v := (nI 3)) hx hb dL_writes_212 (by decide) ?_
              refine call_x (va_runV (As := [.int (nI 3)]) (rest := []) ⟨hx, hb, hml, hown, hts⟩ (kX7_count ln dg tq (x0 := x0) (xl := xl) (xh := xh) (xt := xt) (xp := xp) (xo := xo) (xu := xu) (xw := xw) (xlc := xlc) (c := cw135) (s := s1) (hF := hF1) (xhc := xhc) (st := st2135) (nx := nx2135) (hc := hc2135) (xtc := xtc) (tl := tl) (tx := tx) (x := (nI 3)) H.size) (cwV 1 hts gL_writes_X7_count rfl rfl rfl hdX7_count ⟨Nat.le_of_ble_eq_true rfl, Nat.le_of_ble_eq_true rfl⟩) (preVR hK hN hP [2, 3, 4, 5, 6, 0, 1] rfl 2 rfl rfl [.int (nI 3)]) rfl rfl hl.1 rfl (lv_room (Nat.le_of_ble_eq_true rfl)) dL_writes_213 ⟨Nat.le_refl _, Nat.le_refl _⟩) hP hS hA (fun H locs hP hS => ?_)
              refine r_top (show (ctR s1 st2135 tl (nI 3)) = (nI (nB s1)) from ct_ (by omega)) ?_
              refine r_if_eq (tgt := 230) hx hb (nI_tI (by omega)) dL_writes_216 (by decide) (fun c216 => ?_) (fun c216 => False.elim (by omega))
              refine lv_iconst (v := (nI 1)) hx hb dL_writes_230 (by decide) ?_
              refine lv_goto (tgt := 235) hx hb dL_writes_231 (by decide) ?_
              exact hret (nI 1) (cw135, hc2135, st2135, nx2135, uf2135) H locs _ ls (show (nI 1) = (nI 1) ∧ (∃ s2, LX s2 cw135 st2135 nx2135) from (⟨rfl, s1, hL1⟩)) rfl (hP.sub [2, 3, 4, 5, 6, 0, 1, 7, 8] rfl) (hD.sub [2, 3, 4, 5, 6, 0, 1, 7, 8] (by decide) rfl) hS dL_writes_235
            · skip
              refine lv_iload_n hx hb dL_writes_181 rfl (lv_at hl 5 rfl) ?_
              refine lv_bipush (v := (nI 60)) hx hb dL_writes_182 (by decide) ?_
              refine r_icmp_ne (tgt := 190) hx hb (nI_tI (by omega)) (nI_tI (by omega)) dL_writes_184 (by decide) (fun c184 => ?_) (fun c184 => ?_)
              · skip
                refine lv_iload hx hb dL_writes_190 (lv_at hl 1 rfl) ?_
                refine lv_iconst (v := (nI 1)) hx hb dL_writes_192 (by decide) ?_
                refine r_icmp_eq (tgt := 202) hx hb (nI_tI (by omega)) (nI_tI (by omega)) dL_writes_193 (by decide) (fun c193 => ?_) (fun c193 => ?_)
                · skip
                  refine lv_aload_n hx hb dL_writes_202 rfl (lv_at hl 7 rfl) ?_
                  refine lv_iconst (v := (nI 0)) hx hb dL_writes_203 (by decide) ?_
                  refine call_x (va_runV (As := [.int (nI 0)]) (rest := []) ⟨hx, hb, hml, hown, hts⟩ (kX7_count ln dg tq (x0 := x0) (xl := xl) (xh := xh) (xt := xt) (xp := xp) (xo := xo) (xu := xu) (xw := xw) (xlc := xlc) (c := cw135) (s := s1) (hF := hF1) (xhc := xhc) (st := st2135) (nx := nx2135) (hc := hc2135) (xtc := xtc) (tl := tl) (tx := tx) (x := (nI 0)) H.size) (cwV 1 hts gL_writes_X7_count rfl rfl rfl hdX7_count ⟨Nat.le_of_ble_eq_true rfl, Nat.le_of_ble_eq_true rfl⟩) (preVR hK hN hP [2, 3, 4, 5, 6, 0, 1] rfl 2 rfl rfl [.int (nI 0)]) rfl rfl hl.1 rfl (lv_room (Nat.le_of_ble_eq_true rfl)) dL_writes_204 ⟨Nat.le_refl _, Nat.le_refl _⟩) hP hS hA (fun H locs hP hS => ?_)
                  refine r_top (show (ctR s1 st2135 tl (nI 0)) = (nI (nE s1)) from ct_ (by omega)) ?_
                  refine lv_iload_n hx hb dL_writes_207 rfl (lv_at hl 5 rfl) ?_
                  refine r_icmp_ne (tgt := 234) hx hb (nI_tI (by omega)) (nI_tI (by omega)) dL_writes_208 (by decide) (fun c208 => False.elim (by omega)) (fun c208 => ?_)
                  refine lv_aload_n hx hb dL_writes_211 rfl (lv_at hl 7 rfl) ?_
                  refine lv_iconst (v := (nI 3)) hx hb dL_writes_212 (by decide) ?_
                  refine call_x (va_runV (As := [.int (nI 3)]) (rest := []) ⟨hx, hb, hml, hown, hts⟩ (kX7_count ln dg tq (x0 := x0) (xl := xl) (xh := xh) (xt := xt) (xp := xp) (xo := xo) (xu := xu) (xw := xw) (xlc := xlc) (c := cw135) (s := s1) (hF := hF1) (xhc := xhc) (st := st2135) (nx := nx2135) (hc := hc2135) (xtc := xtc) (tl := tl) (tx := tx) (x := (nI 3)) H.size) (cwV 1 hts gL_writes_X7_count rfl rfl rfl hdX7_count ⟨Nat.le_of_ble_eq_true rfl, Nat.le_of_ble_eq_true rfl⟩) (preVR hK hN hP [2, 3, 4, 5, 6, 0, 1] rfl 2 rfl rfl [.int (nI 3)]) rfl rfl hl.1 rfl (lv_room (Nat.le_of_ble_eq_true rfl)) dL_writes_213 ⟨Nat.le_refl _, Nat.le_refl _⟩) hP hS hA (fun H locs hP hS => ?_)
                  refine r_top (show (ctR s1 st2135 tl (nI 3)) = (nI (nB s1)) from ct_ (by omega)) ?_
                  refine r_if_eq (tgt := 230) hx hb (nI_tI (by omega)) dL_writes_216 (by decide) (fun c216 => ?_) (fun c216 => False.elim (by omega))
                  refine lv_iconst (v := (nI 1)) hx hb dL_writes_230 (by decide) ?_
                  refine lv_goto (tgt := 235) hx hb dL_writes_231 (by decide) ?_
                  exact hret (nI 1) (cw135, hc2135, st2135, nx2135, uf2135) H locs _ ls (show (nI 1) = (nI 1) ∧ (∃ s2, LX s2 cw135 st2135 nx2135) from (⟨rfl, s1, hL1⟩)) rfl (hP.sub [2, 3, 4, 5, 6, 0, 1, 7, 8] rfl) (hD.sub [2, 3, 4, 5, 6, 0, 1, 7, 8] (by decide) rfl) hS dL_writes_235
                · skip
                  refine lv_iload hx hb dL_writes_196 (lv_at hl 1 rfl) ?_
                  refine lv_iconst (v := (nI 3)) hx hb dL_writes_198 (by decide) ?_
                  refine r_icmp_ne (tgt := 234) hx hb (nI_tI (by omega)) (nI_tI (by omega)) dL_writes_199 (by decide) (fun c199 => False.elim (by omega)) (fun c199 => ?_)
                  refine lv_aload_n hx hb dL_writes_202 rfl (lv_at hl 7 rfl) ?_
                  refine lv_iconst (v := (nI 0)) hx hb dL_writes_203 (by decide) ?_
                  refine call_x (va_runV (As := [.int (nI 0)]) (rest := []) ⟨hx, hb, hml, hown, hts⟩ (kX7_count ln dg tq (x0 := x0) (xl := xl) (xh := xh) (xt := xt) (xp := xp) (xo := xo) (xu := xu) (xw := xw) (xlc := xlc) (c := cw135) (s := s1) (hF := hF1) (xhc := xhc) (st := st2135) (nx := nx2135) (hc := hc2135) (xtc := xtc) (tl := tl) (tx := tx) (x := (nI 0)) H.size) (cwV 1 hts gL_writes_X7_count rfl rfl rfl hdX7_count ⟨Nat.le_of_ble_eq_true rfl, Nat.le_of_ble_eq_true rfl⟩) (preVR hK hN hP [2, 3, 4, 5, 6, 0, 1] rfl 2 rfl rfl [.int (nI 0)]) rfl rfl hl.1 rfl (lv_room (Nat.le_of_ble_eq_true rfl)) dL_writes_204 ⟨Nat.le_refl _, Nat.le_refl _⟩) hP hS hA (fun H locs hP hS => ?_)
                  refine r_top (show (ctR s1 st2135 tl (nI 0)) = (nI (nE s1)) from ct_ (by omega)) ?_
                  refine lv_iload_n hx hb dL_writes_207 rfl (lv_at hl 5 rfl) ?_
                  refine r_icmp_ne (tgt := 234) hx hb (nI_tI (by omega)) (nI_tI (by omega)) dL_writes_208 (by decide) (fun c208 => False.elim (by omega)) (fun c208 => ?_)
                  refine lv_aload_n hx hb dL_writes_211 rfl (lv_at hl 7 rfl) ?_
                  refine lv_iconst (v := (nI 3)) hx hb dL_writes_212 (by decide) ?_
                  refine call_x (va_runV (As := [.int (nI 3)]) (rest := []) ⟨hx, hb, hml, hown, hts⟩ (kX7_count ln dg tq (x0 := x0) (xl := xl) (xh := xh) (xt := xt) (xp := xp) (xo := xo) (xu := xu) (xw := xw) (xlc := xlc) (c := cw135) (s := s1) (hF := hF1) (xhc := xhc) (st := st2135) (nx := nx2135) (hc := hc2135) (xtc := xtc) (tl := tl) (tx := tx) (x := (nI 3)) H.size) (cwV 1 hts gL_writes_X7_count rfl rfl rfl hdX7_count ⟨Nat.le_of_ble_eq_true rfl, Nat.le_of_ble_eq_true rfl⟩) (preVR hK hN hP [2, 3, 4, 5, 6, 0, 1] rfl 2 rfl rfl [.int (nI 3)]) rfl rfl hl.1 rfl (lv_room (Nat.le_of_ble_eq_true rfl)) dL_writes_213 ⟨Nat.le_refl _, Nat.le_refl _⟩) hP hS hA (fun H locs hP hS => ?_)
                  refine r_top (show (ctR s1 st2135 tl (nI 3)) = (nI (nB s1)) from ct_ (by omega)) ?_
                  refine r_if_eq (tgt := 230) hx hb (nI_tI (by omega)) dL_writes_216 (by decide) (fun c216 => ?_) (fun c216 => False.elim (by omega))
                  refine lv_iconst (v := (nI 1)) hx hb dL_writes_230 (by decide) ?_
                  refine lv_goto (tgt := 235) hx hb dL_writes_231 (by decide) ?_
                  exact hret (nI 1) (cw135, hc2135, st2135, nx2135, uf2135) H locs _ ls (show (nI 1) = (nI 1) ∧ (∃ s2, LX s2 cw135 st2135 nx2135) from (⟨rfl, s1, hL1⟩)) rfl (hP.sub [2, 3, 4, 5, 6, 0, 1, 7, 8] rfl) (hD.sub [2, 3, 4, 5, 6, 0, 1, 7, 8] (by decide) rfl) hS dL_writes_235
              · skip
                refine lv_goto (tgt := 202) hx hb dL_writes_187 (by decide) ?_
                refine lv_aload_n hx hb dL_writes_202 rfl (lv_at hl 7 rfl) ?_
                refine lv_iconst (v := (nI 0)) hx hb dL_writes_203 (by decide) ?_
                refine call_x (va_runV (As := [.int (nI 0)]) (rest := []) ⟨hx, hb, hml, hown, hts⟩ (kX7_count ln dg tq (x0 := x0) (xl := xl) (xh := xh) (xt := xt) (xp := xp) (xo := xo) (xu := xu) (xw := xw) (xlc := xlc) (c := cw135) (s := s1) (hF := hF1) (xhc := xhc) (st := st2135) (nx := nx2135) (hc := hc2135) (xtc := xtc) (tl := tl) (tx := tx) (x := (nI 0)) H.size) (cwV 1 hts gL_writes_X7_count rfl rfl rfl hdX7_count ⟨Nat.le_of_ble_eq_true rfl, Nat.le_of_ble_eq_true rfl⟩) (preVR hK hN hP [2, 3, 4, 5, 6, 0, 1] rfl 2 rfl rfl [.int (nI 0)]) rfl rfl hl.1 rfl (lv_room (Nat.le_of_ble_eq_true rfl)) dL_writes_204 ⟨Nat.le_refl _, Nat.le_refl _⟩) hP hS hA (fun H locs hP hS => ?_)
                refine r_top (show (ctR s1 st2135 tl (nI 0)) = (nI (nE s1)) from ct_ (by omega)) ?_
                refine lv_iload_n hx hb dL_writes_207 rfl (lv_at hl 5 rfl) ?_
                refine r_icmp_ne (tgt := 234) hx hb (nI_tI (by omega)) (nI_tI (by omega)) dL_writes_208 (by decide) (fun c208 => False.elim (by omega)) (fun c208 => ?_)
                refine lv_aload_n hx hb dL_writes_211 rfl (lv_at hl 7 rfl) ?_
                refine lv_iconst (v := (nI 3)) hx hb dL_writes_212 (by decide) ?_
                refine call_x (va_runV (As := [.int (nI 3)]) (rest := []) ⟨hx, hb, hml, hown, hts⟩ (kX7_count ln dg tq (x0 := x0) (xl := xl) (xh := xh) (xt := xt) (xp := xp) (xo := xo) (xu := xu) (xw := xw) (xlc := xlc) (c := cw135) (s := s1) (hF := hF1) (xhc := xhc) (st := st2135) (nx := nx2135) (hc := hc2135) (xtc := xtc) (tl := tl) (tx := tx) (x := (nI 3)) H.size) (cwV 1 hts gL_writes_X7_count rfl rfl rfl hdX7_count ⟨Nat.le_of_ble_eq_true rfl, Nat.le_of_ble_eq_true rfl⟩) (preVR hK hN hP [2, 3, 4, 5, 6, 0, 1] rfl 2 rfl rfl [.int (nI 3)]) rfl rfl hl.1 rfl (lv_room (Nat.le_of_ble_eq_true rfl)) dL_writes_213 ⟨Nat.le_refl _, Nat.le_refl _⟩) hP hS hA (fun H locs hP hS => ?_)
                refine r_top (show (ctR s1 st2135 tl (nI 3)) = (nI (nB s1)) from ct_ (by omega)) ?_
                refine r_if_eq (tgt := 230) hx hb (nI_tI (by omega)) dL_writes_216 (by decide) (fun c216 => ?_) (fun c216 => False.elim (by omega))
                refine lv_iconst (v := (nI 1)) hx hb dL_writes_230 (by decide) ?_
                refine lv_goto (tgt := 235) hx hb dL_writes_231 (by decide) ?_
                exact hret (nI 1) (cw135, hc2135, st2135, nx2135, uf2135) H locs _ ls (show (nI 1) = (nI 1) ∧ (∃ s2, LX s2 cw135 st2135 nx2135) from (⟨rfl, s1, hL1⟩)) rfl (hP.sub [2, 3, 4, 5, 6, 0, 1, 7, 8] rfl) (hD.sub [2, 3, 4, 5, 6, 0, 1, 7, 8] (by decide) rfl) hS dL_writes_235
      · skip
        refine lv_aload_n hx hb dL_writes_98 rfl (lv_at hl 6 rfl) ?_
        refine lv_iconst (v := (nI 1)) hx hb dL_writes_99 (by decide) ?_
        refine lv_iload_n hx hb dL_writes_100 rfl (lv_at hl 7 rfl) ?_
        refine lv_iconst (v := (nI 4)) hx hb dL_writes_101 (by decide) ?_
        refine r_idiv_n hx hb (by omega) (by omega) (by omega) dL_writes_102 ?_
        refine lv_iconst (v := (nI 5)) hx hb dL_writes_103 (by decide) ?_
        refine r_irem_n hx hb (by omega) (by omega) (by omega) dL_writes_104 ?_
        refine r_iadd_n hx hb dL_writes_105 ?_
        refine lv_iconst (v := (nI 1)) hx hb dL_writes_106 (by decide) ?_
        refine lv_iload_n hx hb dL_writes_107 rfl (lv_at hl 7 rfl) ?_
        refine lv_bipush (v := (nI 32)) hx hb dL_writes_108 (by decide) ?_
        refine r_idiv_n hx hb (by omega) (by omega) (by omega) dL_writes_110 ?_
        refine lv_bipush (v := (nI 90)) hx hb dL_writes_111 (by decide) ?_
        refine r_irem_n hx hb (by omega) (by omega) (by omega) dL_writes_113 ?_
        refine r_iadd_n hx hb dL_writes_114 ?_
        refine call_w (wr := [(xt, .inr (6, [.ref xtc, .int (nI tl)])), (xtc, .inl (tq.1, 100, .inl tx))]) (va_runV (As := [.int (nI (1 + ((z / 4) % 5))), .int (nI (1 + ((z / 32) % 90)))]) (rest := []) ⟨hx, hb, hml, hown, hts⟩ (kX7_fee ln dg tq (x0 := x0) (xl := xl) (xh := xh) (xt := xt) (xp := xp) (xo := xo) (xu := xu) (xw := xw) (xlc := xlc) (c := c) (s := s) (hF := hF) (xhc := xhc) (st := st) (nx := nx) (hc := hc) (hst := (by omega)) (hnx := (by omega)) (xus := xus) (uf := uf) (f := (nI (1 + ((z / 4) % 5)))) (am := (nI (1 + ((z / 32) % 90)))) H.size) (cwV 2 hts gL_writes_X7_fee rfl rfl rfl hdX7_fee ⟨Nat.le_of_ble_eq_true rfl, Nat.le_of_ble_eq_true rfl⟩) (preVB hK hN hP hD [0, 1, 2, 3, 4, 7, 8] rfl rfl rfl 0 rfl rfl [.int (nI (1 + ((z / 4) % 5))), .int (nI (1 + ((z / 32) % 90)))]) rfl rfl hl.1 rfl (lv_room (Nat.le_of_ble_eq_true rfl)) dL_writes_115 ⟨Nat.le_refl _, Nat.le_refl _⟩) hP hD hS hA [0, 1, 2, 3, 4, 7, 8] [5, 6] rfl rfl (by decide) (by decide) (fun r115 u115 H locs hw115 hP hD hS => ?_)
        obtain ⟨cw115, hc2115, st2115, nx2115, uf2115⟩ := u115
        have hP : va_P dg vwCl [(xt, .inr (6, [.ref xtc, .int (nI tl)])), (xtc, .inl (tq.1, 100, .inl tx)), (x0, .inr (7, [.ref xl, .ref xh, .ref xt, .ref xp, .ref xo, .ref xu, .ref xw])), (xl, .inr (1, [.ref xlc])), (xlc, .inl (tq.1, 1473, .inl cw115)), (xh, .inr (0, [.ref xhc, .int (nI st2115), .int (nI nx2115)])), (xhc, .inl (tq.1, 7365, .inl hc2115)), (xu, .inr (5, [.ref xus])), (xus, .inl (tq.1, 6, .inl uf2115))] H := hP
        have hD : va_D AA [(xt, .inr (6, [.ref xtc, .int (nI tl)])), (xtc, .inl (tq.1, 100, .inl tx)), (x0, .inr (7, [.ref xl, .ref xh, .ref xt, .ref xp, .ref xo, .ref xu, .ref xw])), (xl, .inr (1, [.ref xlc])), (xlc, .inl (tq.1, 1473, .inl cw115)), (xh, .inr (0, [.ref xhc, .int (nI st2115), .int (nI nx2115)])), (xhc, .inl (tq.1, 7365, .inl hc2115)), (xu, .inr (5, [.ref xus])), (xus, .inl (tq.1, 6, .inl uf2115))] := hD
        obtain ⟨hr115, hw115⟩ := hw115
        subst hr115
        obtain ⟨tv_, htv_⟩ : ∃ x : Int32, x = feR s (nI (1 + z / 4 % 5)) (nI (1 + z / 32 % 90)) := ⟨_, rfl⟩
        obtain ⟨s1, hL1, hB1, hneg, hpos, -⟩ := A_fe hL (by omega) (by omega) (by omega) (by omega) htv_ hw115
        obtain ⟨hF1, hX1, hst1, hnx1⟩ := id hL1
        obtain ⟨hR1, hW1, -, -⟩ := id hF1
        have hn601 := hW1.n60
        have hn11 := hW1.n1
        have hb101 := hW1.b10
        have hs81 := hW1.s8
        have hhn1 := hW1.hn
        refine r_top (show (feR s (nI (1 + ((z / 4) % 5))) (nI (1 + ((z / 32) % 90)))) = tv_ from htv_.symm) ?_
        refine lv_goto (tgt := 170) hx hb dL_writes_118 (by decide) ?_
        refine lv_istore (lv' := [(8, .int tv_), (7, .int (nI (z % 4))), (6, .int (nI 2)), (5, .int (nI 0)), (4, .int (nI (hE s))), (3, .int (nI (nE s))), (2, .int (nI (cntF (loudB s) (nB s)))), (0, .ref x0), (1, .int (nI z))]) hx hb dL_writes_170 hl (by decide) rfl (fun ls hl => ?_)
        refine lv_iload hx hb dL_writes_172 (lv_at hl 0 rfl) ?_
        refine r_if_ge (tgt := 236) hx hb rfl dL_writes_174 (by decide) (fun c174 => ?_) (fun c174 => ?_)
        · skip
          obtain ⟨q1, q2, q3, q4, q5, q6, q7, q8⟩ := hpos c174
          refine lv_iload_n hx hb dL_writes_236 rfl (lv_at hl 6 rfl) ?_
          refine r_if_ne (tgt := 323) hx hb (nI_tI (by omega)) dL_writes_237 (by decide) (fun c237 => False.elim (by omega)) (fun c237 => ?_)
          refine lv_iload hx hb dL_writes_240 (lv_at hl 0 rfl) ?_
          refine lv_iload_n hx hb dL_writes_242 rfl (lv_at hl 5 rfl) ?_
          refine r_icmp_ne (tgt := 323) hx hb rfl (nI_tI (by omega)) dL_writes_243 (by decide) (fun c243 => False.elim (by omega)) (fun c243 => ?_)
          refine lv_aload_n hx hb dL_writes_246 rfl (lv_at hl 7 rfl) ?_
          refine lv_iconst (v := (nI 1)) hx hb dL_writes_247 (by decide) ?_
          refine call_x (va_runV (As := [.int (nI 1)]) (rest := []) ⟨hx, hb, hml, hown, hts⟩ (kX7_count ln dg tq (x0 := x0) (xl := xl) (xh := xh) (xt := xt) (xp := xp) (xo := xo) (xu := xu) (xw := xw) (xlc := xlc) (c := cw115) (s := s1) (hF := hF1) (xhc := xhc) (st := st2115) (nx := nx2115) (hc := hc2115) (xtc := xtc) (tl := tl) (tx := tx) (x := (nI 1)) H.size) (cwV 1 hts gL_writes_X7_count rfl rfl rfl hdX7_count ⟨Nat.le_of_ble_eq_true rfl, Nat.le_of_ble_eq_true rfl⟩) (preVR hK hN hP [2, 3, 4, 5, 6, 0, 1] rfl 2 rfl rfl [.int (nI 1)]) rfl rfl hl.1 rfl (lv_room (Nat.le_of_ble_eq_true rfl)) dL_writes_248 ⟨Nat.le_refl _, Nat.le_refl _⟩) hP hS hA (fun H locs hP hS => ?_)
          refine r_top (show (ctR s1 st2115 tl (nI 1)) = (nI (hE s1)) from ct_ (by omega)) ?_
          refine lv_iload_n hx hb dL_writes_251 rfl (lv_at hl 5 rfl) ?_
          refine r_icmp_ne (tgt := 323) hx hb (nI_tI (by omega)) (nI_tI (by omega)) dL_writes_252 (by decide) (fun c252 => False.elim (by omega)) (fun c252 => ?_)
          refine lv_aload_n hx hb dL_writes_255 rfl (lv_at hl 7 rfl) ?_
          refine lv_iload_n hx hb dL_writes_256 rfl (lv_at hl 5 rfl) ?_
          refine lv_iconst (v := (nI 4)) hx hb dL_writes_257 (by decide) ?_
          refine call_w (wr := [(xt, .inr (6, [.ref xtc, .int (nI tl)])), (xtc, .inl (tq.1, 100, .inl tx)), (xh, .inr (0, [.ref xhc, .int (nI st2115), .int (nI nx2115)])), (xhc, .inl (tq.1, 7365, .inl hc2115))]) (va_runV (As := [.int (nI (nE s)), .int (nI 4)]) (rest := []) ⟨hx, hb, hml, hown, hts⟩ (kX7_entry ln dg tq (x0 := x0) (xl := xl) (xh := xh) (xt := xt) (xp := xp) (xo := xo) (xu := xu) (xw := xw) (xlc := xlc) (c := cw115) (s := s1) (hF := hF1) (xus := xus) (uf := uf2115) (x := (nI (nE s))) (w := (nI 4)) H.size) (cwV 2 hts gL_writes_X7_entry rfl rfl rfl hdX7_entry ⟨Nat.le_of_ble_eq_true rfl, Nat.le_of_ble_eq_true rfl⟩) (preVB hK hN hP hD [2, 3, 4, 7, 8] rfl rfl rfl 2 rfl rfl [.int (nI (nE s)), .int (nI 4)]) rfl rfl hl.1 rfl (lv_room (Nat.le_of_ble_eq_true rfl)) dL_writes_258 ⟨Nat.le_refl _, Nat.le_refl _⟩) hP hD hS hA [2, 3, 4, 7, 8] [0, 1, 5, 6] rfl rfl (by decide) (by decide) (fun r258 u258 H locs hw258 hP hD hS => ?_)
          obtain ⟨uf2258, rfl⟩ : ∃ z, z = u258 := ⟨_, rfl⟩
          have hP : va_P dg vwCl [(xt, .inr (6, [.ref xtc, .int (nI tl)])), (xtc, .inl (tq.1, 100, .inl tx)), (xh, .inr (0, [.ref xhc, .int (nI st2115), .int (nI nx2115)])), (xhc, .inl (tq.1, 7365, .inl hc2115)), (x0, .inr (7, [.ref xl, .ref xh, .ref xt, .ref xp, .ref xo, .ref xu, .ref xw])), (xl, .inr (1, [.ref xlc])), (xlc, .inl (tq.1, 1473, .inl cw115)), (xu, .inr (5, [.ref xus])), (xus, .inl (tq.1, 6, .inl uf2258))] H := hP
          have hD : va_D AA [(xt, .inr (6, [.ref xtc, .int (nI tl)])), (xtc, .inl (tq.1, 100, .inl tx)), (xh, .inr (0, [.ref xhc, .int (nI st2115), .int (nI nx2115)])), (xhc, .inl (tq.1, 7365, .inl hc2115)), (x0, .inr (7, [.ref xl, .ref xh, .ref xt, .ref xp, .ref xo, .ref xu, .ref xw])), (xl, .inr (1, [.ref xlc])), (xlc, .inl (tq.1, 1473, .inl cw115)), (xu, .inr (5, [.ref xus])), (xus, .inl (tq.1, 6, .inl uf2258))] := hD
          subst hw258
          refine r_top (show (etR s1 (nI (nE s)) (nI 4)) = (me s1 (nE s) 0) from (et_ (by omega) (by omega) (by omega))) ?_
          refine r_top (show (me s1 (nE s) 0) = (nI (hE s)) from q5) ?_
          refine lv_iload hx hb dL_writes_261 (lv_at hl 4 rfl) ?_
          refine r_icmp_ne (tgt := 323) hx hb (nI_tI (by omega)) (nI_tI (by omega)) dL_writes_263 (by decide) (fun c263 => False.elim (by omega)) (fun c263 => ?_)
          refine lv_aload_n hx hb dL_writes_266 rfl (lv_at hl 7 rfl) ?_
          refine lv_iload_n hx hb dL_writes_267 rfl (lv_at hl 5 rfl) ?_
          refine lv_bipush (v := (nI 6)) hx hb dL_writes_268 (by decide) ?_
          refine call_w (wr := [(xt, .inr (6, [.ref xtc, .int (nI tl)])), (xtc, .inl (tq.1, 100, .inl tx)), (xh, .inr (0, [.ref xhc, .int (nI st2115), .int (nI nx2115)])), (xhc, .inl (tq.1, 7365, .inl hc2115))]) (va_runV (As := [.int (nI (nE s)), .int (nI 6)]) (rest := []) ⟨hx, hb, hml, hown, hts⟩ (kX7_entry ln dg tq (x0 := x0) (xl := xl) (xh := xh) (xt := xt) (xp := xp) (xo := xo) (xu := xu) (xw := xw) (xlc := xlc) (c := cw115) (s := s1) (hF := hF1) (xus := xus) (uf := uf2258) (x := (nI (nE s))) (w := (nI 6)) H.size) (cwV 2 hts gL_writes_X7_entry rfl rfl rfl hdX7_entry ⟨Nat.le_of_ble_eq_true rfl, Nat.le_of_ble_eq_true rfl⟩) (preVB hK hN hP hD [4, 5, 6, 7, 8] rfl rfl rfl 4 rfl rfl [.int (nI (nE s)), .int (nI 6)]) rfl rfl hl.1 rfl (lv_room (Nat.le_of_ble_eq_true rfl)) dL_writes_270 ⟨Nat.le_refl _, Nat.le_refl _⟩) hP hD hS hA [4, 5, 6, 7, 8] [0, 1, 2, 3] rfl rfl (by decide) (by decide) (fun r270 u270 H locs hw270 hP hD hS => ?_)
          obtain ⟨uf2270, rfl⟩ : ∃ z, z = u270 := ⟨_, rfl⟩
          have hP : va_P dg vwCl [(xt, .inr (6, [.ref xtc, .int (nI tl)])), (xtc, .inl (tq.1, 100, .inl tx)), (xh, .inr (0, [.ref xhc, .int (nI st2115), .int (nI nx2115)])), (xhc, .inl (tq.1, 7365, .inl hc2115)), (x0, .inr (7, [.ref xl, .ref xh, .ref xt, .ref xp, .ref xo, .ref xu, .ref xw])), (xl, .inr (1, [.ref xlc])), (xlc, .inl (tq.1, 1473, .inl cw115)), (xu, .inr (5, [.ref xus])), (xus, .inl (tq.1, 6, .inl uf2270))] H := hP
          have hD : va_D AA [(xt, .inr (6, [.ref xtc, .int (nI tl)])), (xtc, .inl (tq.1, 100, .inl tx)), (xh, .inr (0, [.ref xhc, .int (nI st2115), .int (nI nx2115)])), (xhc, .inl (tq.1, 7365, .inl hc2115)), (x0, .inr (7, [.ref xl, .ref xh, .ref xt, .ref xp, .ref xo, .ref xu, .ref xw])), (xl, .inr (1, [.ref xlc])), (xlc, .inl (tq.1, 1473, .inl cw115)), (xu, .inr (5, [.ref xus])), (xus, .inl (tq.1, 6, .inl uf2270))] := hD
          subst hw270
          refine r_top (show (etR s1 (nI (nE s)) (nI 6)) = (nI 1) from (et_ (by omega) (by omega) (by omega)).trans (et6 q6)) ?_
          refine lv_iconst (v := (nI 1)) hx hb dL_writes_273 (by decide) ?_
          refine r_icmp_ne (tgt := 323) hx hb (nI_tI (by omega)) (nI_tI (by omega)) dL_writes_274 (by decide) (fun c274 => False.elim (by omega)) (fun c274 => ?_)
          refine lv_aload_n hx hb dL_writes_277 rfl (lv_at hl 7 rfl) ?_
          refine lv_iload_n hx hb dL_writes_278 rfl (lv_at hl 5 rfl) ?_
          refine lv_bipush (v := (nI 8)) hx hb dL_writes_279 (by decide) ?_
          refine call_w (wr := [(xt, .inr (6, [.ref xtc, .int (nI tl)])), (xtc, .inl (tq.1, 100, .inl tx)), (xh, .inr (0, [.ref xhc, .int (nI st2115), .int (nI nx2115)])), (xhc, .inl (tq.1, 7365, .inl hc2115))]) (va_runV (As := [.int (nI (nE s)), .int (nI 8)]) (rest := []) ⟨hx, hb, hml, hown, hts⟩ (kX7_entry ln dg tq (x0 := x0) (xl := xl) (xh := xh) (xt := xt) (xp := xp) (xo := xo) (xu := xu) (xw := xw) (xlc := xlc) (c := cw115) (s := s1) (hF := hF1) (xus := xus) (uf := uf2270) (x := (nI (nE s))) (w := (nI 8)) H.size) (cwV 2 hts gL_writes_X7_entry rfl rfl rfl hdX7_entry ⟨Nat.le_of_ble_eq_true rfl, Nat.le_of_ble_eq_true rfl⟩) (preVB hK hN hP hD [4, 5, 6, 7, 8] rfl rfl rfl 4 rfl rfl [.int (nI (nE s)), .int (nI 8)]) rfl rfl hl.1 rfl (lv_room (Nat.le_of_ble_eq_true rfl)) dL_writes_281 ⟨Nat.le_refl _, Nat.le_refl _⟩) hP hD hS hA [4, 5, 6, 7, 8] [0, 1, 2, 3] rfl rfl (by decide) (by decide) (fun r281 u281 H locs hw281 hP hD hS => ?_)
          obtain ⟨uf2281, rfl⟩ : ∃ z, z = u281 := ⟨_, rfl⟩
          have hP : va_P dg vwCl [(xt, .inr (6, [.ref xtc, .int (nI tl)])), (xtc, .inl (tq.1, 100, .inl tx)), (xh, .inr (0, [.ref xhc, .int (nI st2115), .int (nI nx2115)])), (xhc, .inl (tq.1, 7365, .inl hc2115)), (x0, .inr (7, [.ref xl, .ref xh, .ref xt, .ref xp, .ref xo, .ref xu, .ref xw])), (xl, .inr (1, [.ref xlc])), (xlc, .inl (tq.1, 1473, .inl cw115)), (xu, .inr (5, [.ref xus])), (xus, .inl (tq.1, 6, .inl uf2281))] H := hP
          have hD : va_D AA [(xt, .inr (6, [.ref xtc, .int (nI tl)])), (xtc, .inl (tq.1, 100, .inl tx)), (xh, .inr (0, [.ref xhc, .int (nI st2115), .int (nI nx2115)])), (xhc, .inl (tq.1, 7365, .inl hc2115)), (x0, .inr (7, [.ref xl, .ref xh, .ref xt, .ref xp, .ref xo, .ref xu, .ref xw])), (xl, .inr (1, [.ref xlc])), (xlc, .inl (tq.1, 1473, .inl cw115)), (xu, .inr (5, [.ref xus])), (xus, .inl (tq.1, 6, .inl uf2281))] := hD
          subst hw281
          refine r_top (show (etR s1 (nI (nE s)) (nI 8)) = (me s1 (nE s) 6) from (et_ (by omega) (by omega) (by omega))) ?_
          refine r_top (show (me s1 (nE s) 6) = (-100009) from q7) ?_
          refine lv_ldc hx hb hown k19 dL_writes_284 ?_
          refine r_icmp_ne (tgt := 323) hx hb (by decide : ((-100009) : Int32).toInt = (-100009)) (by decide : ((-100009) : Int32).toInt = (-100009)) dL_writes_286 (by decide) (fun c286 => False.elim (by omega)) (fun c286 => ?_)
          refine lv_aload_n hx hb dL_writes_289 rfl (lv_at hl 7 rfl) ?_
          refine lv_iconst (v := (nI 3)) hx hb dL_writes_290 (by decide) ?_
          refine call_x (va_runV (As := [.int (nI 3)]) (rest := []) ⟨hx, hb, hml, hown, hts⟩ (kX7_count ln dg tq (x0 := x0) (xl := xl) (xh := xh) (xt := xt) (xp := xp) (xo := xo) (xu := xu) (xw := xw) (xlc := xlc) (c := cw115) (s := s1) (hF := hF1) (xhc := xhc) (st := st2115) (nx := nx2115) (hc := hc2115) (xtc := xtc) (tl := tl) (tx := tx) (x := (nI 3)) H.size) (cwV 1 hts gL_writes_X7_count rfl rfl rfl hdX7_count ⟨Nat.le_of_ble_eq_true rfl, Nat.le_of_ble_eq_true rfl⟩) (preVR hK hN hP [4, 5, 6, 2, 3, 0, 1] rfl 4 rfl rfl [.int (nI 3)]) rfl rfl hl.1 rfl (lv_room (Nat.le_of_ble_eq_true rfl)) dL_writes_291 ⟨Nat.le_refl _, Nat.le_refl _⟩) hP hS hA (fun H locs hP hS => ?_)
          refine r_top (show (ctR s1 st2115 tl (nI 3)) = (nI (nB s1)) from ct_ (by omega)) ?_
          refine r_if_eq (tgt := 319) hx hb (nI_tI (by omega)) dL_writes_294 (by decide) (fun c294 => ?_) (fun c294 => False.elim (by omega))
          refine lv_iconst (v := (nI 1)) hx hb dL_writes_319 (by decide) ?_
          refine lv_goto (tgt := 324) hx hb dL_writes_320 (by decide) ?_
          exact hret (nI 1) (cw115, hc2115, st2115, nx2115, uf2281) H locs _ ls (show (nI 1) = (nI 1) ∧ (∃ s2, LX s2 cw115 st2115 nx2115) from (⟨rfl, s1, hL1⟩)) rfl (hP.sub [4, 5, 6, 2, 3, 0, 1, 7, 8] rfl) (hD.sub [4, 5, 6, 2, 3, 0, 1, 7, 8] (by decide) rfl) hS dL_writes_324
        · skip
          obtain ⟨hne, hpl, hca⟩ := hneg c174
          refine lv_iload_n hx hb dL_writes_177 rfl (lv_at hl 6 rfl) ?_
          refine r_if_gt (tgt := 202) hx hb (nI_tI (by omega)) dL_writes_178 (by decide) (fun c178 => ?_) (fun c178 => ?_)
          · skip
            refine lv_aload_n hx hb dL_writes_202 rfl (lv_at hl 7 rfl) ?_
            refine lv_iconst (v := (nI 0)) hx hb dL_writes_203 (by decide) ?_
            refine call_x (va_runV (As := [.int (nI 0)]) (rest := []) ⟨hx, hb, hml, hown, hts⟩ (kX7_count ln dg tq (x0 := x0) (xl := xl) (xh := xh) (xt := xt) (xp := xp) (xo := xo) (xu := xu) (xw := xw) (xlc := xlc) (c := cw115) (s := s1) (hF := hF1) (xhc := xhc) (st := st2115) (nx := nx2115) (hc := hc2115) (xtc := xtc) (tl := tl) (tx := tx) (x := (nI 0)) H.size) (cwV 1 hts gL_writes_X7_count rfl rfl rfl hdX7_count ⟨Nat.le_of_ble_eq_true rfl, Nat.le_of_ble_eq_true rfl⟩) (preVR hK hN hP [2, 3, 4, 5, 6, 0, 1] rfl 2 rfl rfl [.int (nI 0)]) rfl rfl hl.1 rfl (lv_room (Nat.le_of_ble_eq_true rfl)) dL_writes_204 ⟨Nat.le_refl _, Nat.le_refl _⟩) hP hS hA (fun H locs hP hS => ?_)
            refine r_top (show (ctR s1 st2115 tl (nI 0)) = (nI (nE s1)) from ct_ (by omega)) ?_
            refine lv_iload_n hx hb dL_writes_207 rfl (lv_at hl 5 rfl) ?_
            refine r_icmp_ne (tgt := 234) hx hb (nI_tI (by omega)) (nI_tI (by omega)) dL_writes_208 (by decide) (fun c208 => False.elim (by omega)) (fun c208 => ?_)
            refine lv_aload_n hx hb dL_writes_211 rfl (lv_at hl 7 rfl) ?_
            refine lv_iconst (v := (nI 3)) hx hb dL_writes_212 (by decide) ?_
            refine call_x (va_runV (As := [.int (nI 3)]) (rest := []) ⟨hx, hb, hml, hown, hts⟩ (kX7_count ln dg tq (x0 := x0) (xl := xl) (xh := xh) (xt := xt) (xp := xp) (xo := xo) (xu := xu) (xw := xw) (xlc := xlc) (c := cw115) (s := s1) (hF := hF1) (xhc := xhc) (st := st2115) (nx := nx2115) (hc := hc2115) (xtc := xtc) (tl := tl) (tx := tx) (x := (nI 3)) H.size) (cwV 1 hts gL_writes_X7_count rfl rfl rfl hdX7_count ⟨Nat.le_of_ble_eq_true rfl, Nat.le_of_ble_eq_true rfl⟩) (preVR hK hN hP [2, 3, 4, 5, 6, 0, 1] rfl 2 rfl rfl [.int (nI 3)]) rfl rfl hl.1 rfl (lv_room (Nat.le_of_ble_eq_true rfl)) dL_writes_213 ⟨Nat.le_refl _, Nat.le_refl _⟩) hP hS hA (fun H locs hP hS => ?_)
            refine r_top (show (ctR s1 st2115 tl (nI 3)) = (nI (nB s1)) from ct_ (by omega)) ?_
            refine r_if_eq (tgt := 230) hx hb (nI_tI (by omega)) dL_writes_216 (by decide) (fun c216 => ?_) (fun c216 => False.elim (by omega))
            refine lv_iconst (v := (nI 1)) hx hb dL_writes_230 (by decide) ?_
            refine lv_goto (tgt := 235) hx hb dL_writes_231 (by decide) ?_
            exact hret (nI 1) (cw115, hc2115, st2115, nx2115, uf2115) H locs _ ls (show (nI 1) = (nI 1) ∧ (∃ s2, LX s2 cw115 st2115 nx2115) from (⟨rfl, s1, hL1⟩)) rfl (hP.sub [2, 3, 4, 5, 6, 0, 1, 7, 8] rfl) (hD.sub [2, 3, 4, 5, 6, 0, 1, 7, 8] (by decide) rfl) hS dL_writes_235
          · skip
            refine lv_iload_n hx hb dL_writes_181 rfl (lv_at hl 5 rfl) ?_
            refine lv_bipush (v := (nI 60)) hx hb dL_writes_182 (by decide) ?_
            refine r_icmp_ne (tgt := 190) hx hb (nI_tI (by omega)) (nI_tI (by omega)) dL_writes_184 (by decide) (fun c184 => ?_) (fun c184 => ?_)
            · skip
              refine lv_iload hx hb dL_writes_190 (lv_at hl 1 rfl) ?_
              refine lv_iconst (v := (nI 1)) hx hb dL_writes_192 (by decide) ?_
              refine r_icmp_eq (tgt := 202) hx hb (nI_tI (by omega)) (nI_tI (by omega)) dL_writes_193 (by decide) (fun c193 => ?_) (fun c193 => ?_)
              · skip
                refine lv_aload_n hx hb dL_writes_202 rfl (lv_at hl 7 rfl) ?_
                refine lv_iconst (v := (nI 0)) hx hb dL_writes_203 (by decide) ?_
                refine call_x (va_runV (As := [.int (nI 0)]) (rest := []) ⟨hx, hb, hml, hown, hts⟩ (kX7_count ln dg tq (x0 := x0) (xl := xl) (xh := xh) (xt := xt) (xp := xp) (xo := xo) (xu := xu) (xw := xw) (xlc := xlc) (c := cw115) (s := s1) (hF := hF1) (xhc := xhc) (st := st2115) (nx := nx2115) (hc := hc2115) (xtc := xtc) (tl := tl) (tx := tx) (x := (nI 0)) H.size) (cwV 1 hts gL_writes_X7_count rfl rfl rfl hdX7_count ⟨Nat.le_of_ble_eq_true rfl, Nat.le_of_ble_eq_true rfl⟩) (preVR hK hN hP [2, 3, 4, 5, 6, 0, 1] rfl 2 rfl rfl [.int (nI 0)]) rfl rfl hl.1 rfl (lv_room (Nat.le_of_ble_eq_true rfl)) dL_writes_204 ⟨Nat.le_refl _, Nat.le_refl _⟩) hP hS hA (fun H locs hP hS => ?_)
                refine r_top (show (ctR s1 st2115 tl (nI 0)) = (nI (nE s1)) from ct_ (by omega)) ?_
                refine lv_iload_n hx hb dL_writes_207 rfl (lv_at hl 5 rfl) ?_
                refine r_icmp_ne (tgt := 234) hx hb (nI_tI (by omega)) (nI_tI (by omega)) dL_writes_208 (by decide) (fun c208 => False.elim (by omega)) (fun c208 => ?_)
                refine lv_aload_n hx hb dL_writes_211 rfl (lv_at hl 7 rfl) ?_
                refine lv_iconst (v := (nI 3)) hx hb dL_writes_212 (by decide) ?_
                refine call_x (va_runV (As := [.int (nI 3)]) (rest := []) ⟨hx, hb, hml, hown, hts⟩ (kX7_count ln dg tq (x0 := x0) (xl := xl) (xh := xh) (xt := xt) (xp := xp) (xo := xo) (xu := xu) (xw := xw) (xlc := xlc) (c := cw115) (s := s1) (hF := hF1) (xhc := xhc) (st := st2115) (nx := nx2115) (hc := hc2115) (xtc := xtc) (tl := tl) (tx := tx) (x := (nI 3)) H.size) (cwV 1 hts gL_writes_X7_count rfl rfl rfl hdX7_count ⟨Nat.le_of_ble_eq_true rfl, Nat.le_of_ble_eq_true rfl⟩) (preVR hK hN hP [2, 3, 4, 5, 6, 0, 1] rfl 2 rfl rfl [.int (nI 3)]) rfl rfl hl.1 rfl (lv_room (Nat.le_of_ble_eq_true rfl)) dL_writes_213 ⟨Nat.le_refl _, Nat.le_refl _⟩) hP hS hA (fun H locs hP hS => ?_)
                refine r_top (show (ctR s1 st2115 tl (nI 3)) = (nI (nB s1)) from ct_ (by omega)) ?_
                refine r_if_eq (tgt := 230) hx hb (nI_tI (by omega)) dL_writes_216 (by decide) (fun c216 => ?_) (fun c216 => False.elim (by omega))
                refine lv_iconst (v := (nI 1)) hx hb dL_writes_230 (by decide) ?_
                refine lv_goto (tgt := 235) hx hb dL_writes_231 (by decide) ?_
                exact hret (nI 1) (cw115, hc2115, st2115, nx2115, uf2115) H locs _ ls (show (nI 1) = (nI 1) ∧ (∃ s2, LX s2 cw115 st2115 nx2115) from (⟨rfl, s1, hL1⟩)) rfl (hP.sub [2, 3, 4, 5, 6, 0, 1, 7, 8] rfl) (hD.sub [2, 3, 4, 5, 6, 0, 1, 7, 8] (by decide) rfl) hS dL_writes_235
              · skip
                refine lv_iload hx hb dL_writes_196 (lv_at hl 1 rfl) ?_
                refine lv_iconst (v := (nI 3)) hx hb dL_writes_198 (by decide) ?_
                refine r_icmp_ne (tgt := 234) hx hb (nI_tI (by omega)) (nI_tI (by omega)) dL_writes_199 (by decide) (fun c199 => False.elim (by omega)) (fun c199 => ?_)
                refine lv_aload_n hx hb dL_writes_202 rfl (lv_at hl 7 rfl) ?_
                refine lv_iconst (v := (nI 0)) hx hb dL_writes_203 (by decide) ?_
                refine call_x (va_runV (As := [.int (nI 0)]) (rest := []) ⟨hx, hb, hml, hown, hts⟩ (kX7_count ln dg tq (x0 := x0) (xl := xl) (xh := xh) (xt := xt) (xp := xp) (xo := xo) (xu := xu) (xw := xw) (xlc := xlc) (c := cw115) (s := s1) (hF := hF1) (xhc := xhc) (st := st2115) (nx := nx2115) (hc := hc2115) (xtc := xtc) (tl := tl) (tx := tx) (x := (nI 0)) H.size) (cwV 1 hts gL_writes_X7_count rfl rfl rfl hdX7_count ⟨Nat.le_of_ble_eq_true rfl, Nat.le_of_ble_eq_true rfl⟩) (preVR hK hN hP [2, 3, 4, 5, 6, 0, 1] rfl 2 rfl rfl [.int (nI 0)]) rfl rfl hl.1 rfl (lv_room (Nat.le_of_ble_eq_true rfl)) dL_writes_204 ⟨Nat.le_refl _, Nat.le_refl _⟩) hP hS hA (fun H locs hP hS => ?_)
                refine r_top (show (ctR s1 st2115 tl (nI 0)) = (nI (nE s1)) from ct_ (by omega)) ?_
                refine lv_iload_n hx hb dL_writes_207 rfl (lv_at hl 5 rfl) ?_
                refine r_icmp_ne (tgt := 234) hx hb (nI_tI (by omega)) (nI_tI (by omega)) dL_writes_208 (by decide) (fun c208 => False.elim (by omega)) (fun c208 => ?_)
                refine lv_aload_n hx hb dL_writes_211 rfl (lv_at hl 7 rfl) ?_
                refine lv_iconst (v := (nI 3)) hx hb dL_writes_212 (by decide) ?_
                refine call_x (va_runV (As := [.int (nI 3)]) (rest := []) ⟨hx, hb, hml, hown, hts⟩ (kX7_count ln dg tq (x0 := x0) (xl := xl) (xh := xh) (xt := xt) (xp := xp) (xo := xo) (xu := xu) (xw := xw) (xlc := xlc) (c := cw115) (s := s1) (hF := hF1) (xhc := xhc) (st := st2115) (nx := nx2115) (hc := hc2115) (xtc := xtc) (tl := tl) (tx := tx) (x := (nI 3)) H.size) (cwV 1 hts gL_writes_X7_count rfl rfl rfl hdX7_count ⟨Nat.le_of_ble_eq_true rfl, Nat.le_of_ble_eq_true rfl⟩) (preVR hK hN hP [2, 3, 4, 5, 6, 0, 1] rfl 2 rfl rfl [.int (nI 3)]) rfl rfl hl.1 rfl (lv_room (Nat.le_of_ble_eq_true rfl)) dL_writes_213 ⟨Nat.le_refl _, Nat.le_refl _⟩) hP hS hA (fun H locs hP hS => ?_)
                refine r_top (show (ctR s1 st2115 tl (nI 3)) = (nI (nB s1)) from ct_ (by omega)) ?_
                refine r_if_eq (tgt := 230) hx hb (nI_tI (by omega)) dL_writes_216 (by decide) (fun c216 => ?_) (fun c216 => False.elim (by omega))
                refine lv_iconst (v := (nI 1)) hx hb dL_writes_230 (by decide) ?_
                refine lv_goto (tgt := 235) hx hb dL_writes_231 (by decide) ?_
                exact hret (nI 1) (cw115, hc2115, st2115, nx2115, uf2115) H locs _ ls (show (nI 1) = (nI 1) ∧ (∃ s2, LX s2 cw115 st2115 nx2115) from (⟨rfl, s1, hL1⟩)) rfl (hP.sub [2, 3, 4, 5, 6, 0, 1, 7, 8] rfl) (hD.sub [2, 3, 4, 5, 6, 0, 1, 7, 8] (by decide) rfl) hS dL_writes_235
            · skip
              refine lv_goto (tgt := 202) hx hb dL_writes_187 (by decide) ?_
              refine lv_aload_n hx hb dL_writes_202 rfl (lv_at hl 7 rfl) ?_
              refine lv_iconst (v := (nI 0)) hx hb dL_writes_203 (by decide) ?_
              refine call_x (va_runV (As := [.int (nI 0)]) (rest := []) ⟨hx, hb, hml, hown, hts⟩ (kX7_count ln dg tq (x0 := x0) (xl := xl) (xh := xh) (xt := xt) (xp := xp) (xo := xo) (xu := xu) (xw := xw) (xlc := xlc) (c := cw115) (s := s1) (hF := hF1) (xhc := xhc) (st := st2115) (nx := nx2115) (hc := hc2115) (xtc := xtc) (tl := tl) (tx := tx) (x := (nI 0)) H.size) (cwV 1 hts gL_writes_X7_count rfl rfl rfl hdX7_count ⟨Nat.le_of_ble_eq_true rfl, Nat.le_of_ble_eq_true rfl⟩) (preVR hK hN hP [2, 3, 4, 5, 6, 0, 1] rfl 2 rfl rfl [.int (nI 0)]) rfl rfl hl.1 rfl (lv_room (Nat.le_of_ble_eq_true rfl)) dL_writes_204 ⟨Nat.le_refl _, Nat.le_refl _⟩) hP hS hA (fun H locs hP hS => ?_)
              refine r_top (show (ctR s1 st2115 tl (nI 0)) = (nI (nE s1)) from ct_ (by omega)) ?_
              refine lv_iload_n hx hb dL_writes_207 rfl (lv_at hl 5 rfl) ?_
              refine r_icmp_ne (tgt := 234) hx hb (nI_tI (by omega)) (nI_tI (by omega)) dL_writes_208 (by decide) (fun c208 => False.elim (by omega)) (fun c208 => ?_)
              refine lv_aload_n hx hb dL_writes_211 rfl (lv_at hl 7 rfl) ?_
              refine lv_iconst (v := (nI 3)) hx hb dL_writes_212 (by decide) ?_
              refine call_x (va_runV (As := [.int (nI 3)]) (rest := []) ⟨hx, hb, hml, hown, hts⟩ (kX7_count ln dg tq (x0 := x0) (xl := xl) (xh := xh) (xt := xt) (xp := xp) (xo := xo) (xu := xu) (xw := xw) (xlc := xlc) (c := cw115) (s := s1) (hF := hF1) (xhc := xhc) (st := st2115) (nx := nx2115) (hc := hc2115) (xtc := xtc) (tl := tl) (tx := tx) (x := (nI 3)) H.size) (cwV 1 hts gL_writes_X7_count rfl rfl rfl hdX7_count ⟨Nat.le_of_ble_eq_true rfl, Nat.le_of_ble_eq_true rfl⟩) (preVR hK hN hP [2, 3, 4, 5, 6, 0, 1] rfl 2 rfl rfl [.int (nI 3)]) rfl rfl hl.1 rfl (lv_room (Nat.le_of_ble_eq_true rfl)) dL_writes_213 ⟨Nat.le_refl _, Nat.le_refl _⟩) hP hS hA (fun H locs hP hS => ?_)
              refine r_top (show (ctR s1 st2115 tl (nI 3)) = (nI (nB s1)) from ct_ (by omega)) ?_
              refine r_if_eq (tgt := 230) hx hb (nI_tI (by omega)) dL_writes_216 (by decide) (fun c216 => ?_) (fun c216 => False.elim (by omega))
              refine lv_iconst (v := (nI 1)) hx hb dL_writes_230 (by decide) ?_
              refine lv_goto (tgt := 235) hx hb dL_writes_231 (by decide) ?_
              exact hret (nI 1) (cw115, hc2115, st2115, nx2115, uf2115) H locs _ ls (show (nI 1) = (nI 1) ∧ (∃ s2, LX s2 cw115 st2115 nx2115) from (⟨rfl, s1, hL1⟩)) rfl (hP.sub [2, 3, 4, 5, 6, 0, 1, 7, 8] rfl) (hD.sub [2, 3, 4, 5, 6, 0, 1, 7, 8] (by decide) rfl) hS dL_writes_235
    · skip
      refine lv_aload_n hx hb dL_writes_69 rfl (lv_at hl 6 rfl) ?_
      refine lv_iload_n hx hb dL_writes_70 rfl (lv_at hl 7 rfl) ?_
      refine lv_iconst (v := (nI 4)) hx hb dL_writes_71 (by decide) ?_
      refine r_idiv_n hx hb (by omega) (by omega) (by omega) dL_writes_72 ?_
      refine lv_bipush (v := (nI 6)) hx hb dL_writes_73 (by decide) ?_
      refine r_irem_n hx hb (by omega) (by omega) (by omega) dL_writes_75 ?_
      refine lv_iconst (v := (nI 1)) hx hb dL_writes_76 (by decide) ?_
      refine lv_iload_n hx hb dL_writes_77 rfl (lv_at hl 7 rfl) ?_
      refine lv_bipush (v := (nI 32)) hx hb dL_writes_78 (by decide) ?_
      refine r_idiv_n hx hb (by omega) (by omega) (by omega) dL_writes_80 ?_
      refine lv_sipush (v := (nI 500)) hx hb dL_writes_81 (by decide) ?_
      refine r_irem_n hx hb (by omega) (by omega) (by omega) dL_writes_84 ?_
      refine r_iadd_n hx hb dL_writes_85 ?_
      refine call_w (wr := [(xt, .inr (6, [.ref xtc, .int (nI tl)])), (xtc, .inl (tq.1, 100, .inl tx))]) (va_runV (As := [.int (nI ((z / 4) % 6)), .int (nI (1 + ((z / 32) % 500)))]) (rest := []) ⟨hx, hb, hml, hown, hts⟩ (kX7_deposit ln dg tq (x0 := x0) (xl := xl) (xh := xh) (xt := xt) (xp := xp) (xo := xo) (xu := xu) (xw := xw) (xlc := xlc) (c := c) (s := s) (hF := hF) (xhc := xhc) (st := st) (nx := nx) (hc := hc) (hst := (by omega)) (hnx := (by omega)) (xus := xus) (uf := uf) (to := (nI ((z / 4) % 6))) (am := (nI (1 + ((z / 32) % 500)))) H.size) (cwV 2 hts gL_writes_X7_deposit rfl rfl rfl hdX7_deposit ⟨Nat.le_of_ble_eq_true rfl, Nat.le_of_ble_eq_true rfl⟩) (preVB hK hN hP hD [0, 1, 2, 3, 4, 7, 8] rfl rfl rfl 0 rfl rfl [.int (nI ((z / 4) % 6)), .int (nI (1 + ((z / 32) % 500)))]) rfl rfl hl.1 rfl (lv_room (Nat.le_of_ble_eq_true rfl)) dL_writes_86 ⟨Nat.le_refl _, Nat.le_refl _⟩) hP hD hS hA [0, 1, 2, 3, 4, 7, 8] [5, 6] rfl rfl (by decide) (by decide) (fun r86 u86 H locs hw86 hP hD hS => ?_)
      obtain ⟨cw86, hc286, st286, nx286, uf286⟩ := u86
      have hP : va_P dg vwCl [(xt, .inr (6, [.ref xtc, .int (nI tl)])), (xtc, .inl (tq.1, 100, .inl tx)), (x0, .inr (7, [.ref xl, .ref xh, .ref xt, .ref xp, .ref xo, .ref xu, .ref xw])), (xl, .inr (1, [.ref xlc])), (xlc, .inl (tq.1, 1473, .inl cw86)), (xh, .inr (0, [.ref xhc, .int (nI st286), .int (nI nx286)])), (xhc, .inl (tq.1, 7365, .inl hc286)), (xu, .inr (5, [.ref xus])), (xus, .inl (tq.1, 6, .inl uf286))] H := hP
      have hD : va_D AA [(xt, .inr (6, [.ref xtc, .int (nI tl)])), (xtc, .inl (tq.1, 100, .inl tx)), (x0, .inr (7, [.ref xl, .ref xh, .ref xt, .ref xp, .ref xo, .ref xu, .ref xw])), (xl, .inr (1, [.ref xlc])), (xlc, .inl (tq.1, 1473, .inl cw86)), (xh, .inr (0, [.ref xhc, .int (nI st286), .int (nI nx286)])), (xhc, .inl (tq.1, 7365, .inl hc286)), (xu, .inr (5, [.ref xus])), (xus, .inl (tq.1, 6, .inl uf286))] := hD
      obtain ⟨hr86, hw86⟩ := hw86
      subst hr86
      obtain ⟨tv_, htv_⟩ : ∃ x : Int32, x = dpR s (nI (z / 4 % 6)) (nI (1 + z / 32 % 500)) := ⟨_, rfl⟩
      obtain ⟨s1, hL1, hB1, hneg, hpos, -⟩ := A_dp hL (by omega) (by omega) (by omega) htv_ hw86
      obtain ⟨hF1, hX1, hst1, hnx1⟩ := id hL1
      obtain ⟨hR1, hW1, -, -⟩ := id hF1
      have hn601 := hW1.n60
      have hn11 := hW1.n1
      have hb101 := hW1.b10
      have hs81 := hW1.s8
      have hhn1 := hW1.hn
      refine r_top (show (dpR s (nI ((z / 4) % 6)) (nI (1 + ((z / 32) % 500)))) = tv_ from htv_.symm) ?_
      refine lv_goto (tgt := 170) hx hb dL_writes_89 (by decide) ?_
      refine lv_istore (lv' := [(8, .int tv_), (7, .int (nI (z % 4))), (6, .int (nI 2)), (5, .int (nI 0)), (4, .int (nI (hE s))), (3, .int (nI (nE s))), (2, .int (nI (cntF (loudB s) (nB s)))), (0, .ref x0), (1, .int (nI z))]) hx hb dL_writes_170 hl (by decide) rfl (fun ls hl => ?_)
      refine lv_iload hx hb dL_writes_172 (lv_at hl 0 rfl) ?_
      refine r_if_ge (tgt := 236) hx hb rfl dL_writes_174 (by decide) (fun c174 => ?_) (fun c174 => ?_)
      · skip
        obtain ⟨q1, q2, q3, q4, q5, q6, q7, q8⟩ := hpos c174
        refine lv_iload_n hx hb dL_writes_236 rfl (lv_at hl 6 rfl) ?_
        refine r_if_ne (tgt := 323) hx hb (nI_tI (by omega)) dL_writes_237 (by decide) (fun c237 => False.elim (by omega)) (fun c237 => ?_)
        refine lv_iload hx hb dL_writes_240 (lv_at hl 0 rfl) ?_
        refine lv_iload_n hx hb dL_writes_242 rfl (lv_at hl 5 rfl) ?_
        refine r_icmp_ne (tgt := 323) hx hb rfl (nI_tI (by omega)) dL_writes_243 (by decide) (fun c243 => False.elim (by omega)) (fun c243 => ?_)
        refine lv_aload_n hx hb dL_writes_246 rfl (lv_at hl 7 rfl) ?_
        refine lv_iconst (v := (nI 1)) hx hb dL_writes_247 (by decide) ?_
        refine call_x (va_runV (As := [.int (nI 1)]) (rest := []) ⟨hx, hb, hml, hown, hts⟩ (kX7_count ln dg tq (x0 := x0) (xl := xl) (xh := xh) (xt := xt) (xp := xp) (xo := xo) (xu := xu) (xw := xw) (xlc := xlc) (c := cw86) (s := s1) (hF := hF1) (xhc := xhc) (st := st286) (nx := nx286) (hc := hc286) (xtc := xtc) (tl := tl) (tx := tx) (x := (nI 1)) H.size) (cwV 1 hts gL_writes_X7_count rfl rfl rfl hdX7_count ⟨Nat.le_of_ble_eq_true rfl, Nat.le_of_ble_eq_true rfl⟩) (preVR hK hN hP [2, 3, 4, 5, 6, 0, 1] rfl 2 rfl rfl [.int (nI 1)]) rfl rfl hl.1 rfl (lv_room (Nat.le_of_ble_eq_true rfl)) dL_writes_248 ⟨Nat.le_refl _, Nat.le_refl _⟩) hP hS hA (fun H locs hP hS => ?_)
        refine r_top (show (ctR s1 st286 tl (nI 1)) = (nI (hE s1)) from ct_ (by omega)) ?_
        refine lv_iload_n hx hb dL_writes_251 rfl (lv_at hl 5 rfl) ?_
        refine r_icmp_ne (tgt := 323) hx hb (nI_tI (by omega)) (nI_tI (by omega)) dL_writes_252 (by decide) (fun c252 => False.elim (by omega)) (fun c252 => ?_)
        refine lv_aload_n hx hb dL_writes_255 rfl (lv_at hl 7 rfl) ?_
        refine lv_iload_n hx hb dL_writes_256 rfl (lv_at hl 5 rfl) ?_
        refine lv_iconst (v := (nI 4)) hx hb dL_writes_257 (by decide) ?_
        refine call_w (wr := [(xt, .inr (6, [.ref xtc, .int (nI tl)])), (xtc, .inl (tq.1, 100, .inl tx)), (xh, .inr (0, [.ref xhc, .int (nI st286), .int (nI nx286)])), (xhc, .inl (tq.1, 7365, .inl hc286))]) (va_runV (As := [.int (nI (nE s)), .int (nI 4)]) (rest := []) ⟨hx, hb, hml, hown, hts⟩ (kX7_entry ln dg tq (x0 := x0) (xl := xl) (xh := xh) (xt := xt) (xp := xp) (xo := xo) (xu := xu) (xw := xw) (xlc := xlc) (c := cw86) (s := s1) (hF := hF1) (xus := xus) (uf := uf286) (x := (nI (nE s))) (w := (nI 4)) H.size) (cwV 2 hts gL_writes_X7_entry rfl rfl rfl hdX7_entry ⟨Nat.le_of_ble_eq_true rfl, Nat.le_of_ble_eq_true rfl⟩) (preVB hK hN hP hD [2, 3, 4, 7, 8] rfl rfl rfl 2 rfl rfl [.int (nI (nE s)), .int (nI 4)]) rfl rfl hl.1 rfl (lv_room (Nat.le_of_ble_eq_true rfl)) dL_writes_258 ⟨Nat.le_refl _, Nat.le_refl _⟩) hP hD hS hA [2, 3, 4, 7, 8] [0, 1, 5, 6] rfl rfl (by decide) (by decide) (fun r258 u258 H locs hw258 hP hD hS => ?_)
        obtain ⟨uf2258, rfl⟩ : ∃ z, z = u258 := ⟨_, rfl⟩
        have hP : va_P dg vwCl [(xt, .inr (6, [.ref xtc, .int (nI tl)])), (xtc, .inl (tq.1, 100, .inl tx)), (xh, .inr (0, [.ref xhc, .int (nI st286), .int (nI nx286)])), (xhc, .inl (tq.1, 7365, .inl hc286)), (x0, .inr (7, [.ref xl, .ref xh, .ref xt, .ref xp, .ref xo, .ref xu, .ref xw])), (xl, .inr (1, [.ref xlc])), (xlc, .inl (tq.1, 1473, .inl cw86)), (xu, .inr (5, [.ref xus])), (xus, .inl (tq.1, 6, .inl uf2258))] H := hP
        have hD : va_D AA [(xt, .inr (6, [.ref xtc, .int (nI tl)])), (xtc, .inl (tq.1, 100, .inl tx)), (xh, .inr (0, [.ref xhc, .int (nI st286), .int (nI nx286)])), (xhc, .inl (tq.1, 7365, .inl hc286)), (x0, .inr (7, [.ref xl, .ref xh, .ref xt, .ref xp, .ref xo, .ref xu, .ref xw])), (xl, .inr (1, [.ref xlc])), (xlc, .inl (tq.1, 1473, .inl cw86)), (xu, .inr (5, [.ref xus])), (xus, .inl (tq.1, 6, .inl uf2258))] := hD
        subst hw258
        refine r_top (show (etR s1 (nI (nE s)) (nI 4)) = (me s1 (nE s) 0) from (et_ (by omega) (by omega) (by omega))) ?_
        refine r_top (show (me s1 (nE s) 0) = (nI (hE s)) from q5) ?_
        refine lv_iload hx hb dL_writes_261 (lv_at hl 4 rfl) ?_
        refine r_icmp_ne (tgt := 323) hx hb (nI_tI (by omega)) (nI_tI (by omega)) dL_writes_263 (by decide) (fun c263 => False.elim (by omega)) (fun c263 => ?_)
        refine lv_aload_n hx hb dL_writes_266 rfl (lv_at hl 7 rfl) ?_
        refine lv_iload_n hx hb dL_writes_267 rfl (lv_at hl 5 rfl) ?_
        refine lv_bipush (v := (nI 6)) hx hb dL_writes_268 (by decide) ?_
        refine call_w (wr := [(xt, .inr (6, [.ref xtc, .int (nI tl)])), (xtc, .inl (tq.1, 100, .inl tx)), (xh, .inr (0, [.ref xhc, .int (nI st286), .int (nI nx286)])), (xhc, .inl (tq.1, 7365, .inl hc286))]) (va_runV (As := [.int (nI (nE s)), .int (nI 6)]) (rest := []) ⟨hx, hb, hml, hown, hts⟩ (kX7_entry ln dg tq (x0 := x0) (xl := xl) (xh := xh) (xt := xt) (xp := xp) (xo := xo) (xu := xu) (xw := xw) (xlc := xlc) (c := cw86) (s := s1) (hF := hF1) (xus := xus) (uf := uf2258) (x := (nI (nE s))) (w := (nI 6)) H.size) (cwV 2 hts gL_writes_X7_entry rfl rfl rfl hdX7_entry ⟨Nat.le_of_ble_eq_true rfl, Nat.le_of_ble_eq_true rfl⟩) (preVB hK hN hP hD [4, 5, 6, 7, 8] rfl rfl rfl 4 rfl rfl [.int (nI (nE s)), .int (nI 6)]) rfl rfl hl.1 rfl (lv_room (Nat.le_of_ble_eq_true rfl)) dL_writes_270 ⟨Nat.le_refl _, Nat.le_refl _⟩) hP hD hS hA [4, 5, 6, 7, 8] [0, 1, 2, 3] rfl rfl (by decide) (by decide) (fun r270 u270 H locs hw270 hP hD hS => ?_)
        obtain ⟨uf2270, rfl⟩ : ∃ z, z = u270 := ⟨_, rfl⟩
        have hP : va_P dg vwCl [(xt, .inr (6, [.ref xtc, .int (nI tl)])), (xtc, .inl (tq.1, 100, .inl tx)), (xh, .inr (0, [.ref xhc, .int (nI st286), .int (nI nx286)])), (xhc, .inl (tq.1, 7365, .inl hc286)), (x0, .inr (7, [.ref xl, .ref xh, .ref xt, .ref xp, .ref xo, .ref xu, .ref xw])), (xl, .inr (1, [.ref xlc])), (xlc, .inl (tq.1, 1473, .inl cw86)), (xu, .inr (5, [.ref xus])), (xus, .inl (tq.1, 6, .inl uf2270))] H := hP
        have hD : va_D AA [(xt, .inr (6, [.ref xtc, .int (nI tl)])), (xtc, .inl (tq.1, 100, .inl tx)), (xh, .inr (0, [.ref xhc, .int (nI st286), .int (nI nx286)])), (xhc, .inl (tq.1, 7365, .inl hc286)), (x0, .inr (7, [.ref xl, .ref xh, .ref xt, .ref xp, .ref xo, .ref xu, .ref xw])), (xl, .inr (1, [.ref xlc])), (xlc, .inl (tq.1, 1473, .inl cw86)), (xu, .inr (5, [.ref xus])), (xus, .inl (tq.1, 6, .inl uf2270))] := hD
        subst hw270
        refine r_top (show (etR s1 (nI (nE s)) (nI 6)) = (nI 1) from (et_ (by omega) (by omega) (by omega)).trans (et6 q6)) ?_
        refine lv_iconst (v := (nI 1)) hx hb dL_writes_273 (by decide) ?_
        refine r_icmp_ne (tgt := 323) hx hb (nI_tI (by omega)) (nI_tI (by omega)) dL_writes_274 (by decide) (fun c274 => False.elim (by omega)) (fun c274 => ?_)
        refine lv_aload_n hx hb dL_writes_277 rfl (lv_at hl 7 rfl) ?_
        refine lv_iload_n hx hb dL_writes_278 rfl (lv_at hl 5 rfl) ?_
        refine lv_bipush (v := (nI 8)) hx hb dL_writes_279 (by decide) ?_
        refine call_w (wr := [(xt, .inr (6, [.ref xtc, .int (nI tl)])), (xtc, .inl (tq.1, 100, .inl tx)), (xh, .inr (0, [.ref xhc, .int (nI st286), .int (nI nx286)])), (xhc, .inl (tq.1, 7365, .inl hc286))]) (va_runV (As := [.int (nI (nE s)), .int (nI 8)]) (rest := []) ⟨hx, hb, hml, hown, hts⟩ (kX7_entry ln dg tq (x0 := x0) (xl := xl) (xh := xh) (xt := xt) (xp := xp) (xo := xo) (xu := xu) (xw := xw) (xlc := xlc) (c := cw86) (s := s1) (hF := hF1) (xus := xus) (uf := uf2270) (x := (nI (nE s))) (w := (nI 8)) H.size) (cwV 2 hts gL_writes_X7_entry rfl rfl rfl hdX7_entry ⟨Nat.le_of_ble_eq_true rfl, Nat.le_of_ble_eq_true rfl⟩) (preVB hK hN hP hD [4, 5, 6, 7, 8] rfl rfl rfl 4 rfl rfl [.int (nI (nE s)), .int (nI 8)]) rfl rfl hl.1 rfl (lv_room (Nat.le_of_ble_eq_true rfl)) dL_writes_281 ⟨Nat.le_refl _, Nat.le_refl _⟩) hP hD hS hA [4, 5, 6, 7, 8] [0, 1, 2, 3] rfl rfl (by decide) (by decide) (fun r281 u281 H locs hw281 hP hD hS => ?_)
        obtain ⟨uf2281, rfl⟩ : ∃ z, z = u281 := ⟨_, rfl⟩
        have hP : va_P dg vwCl [(xt, .inr (6, [.ref xtc, .int (nI tl)])), (xtc, .inl (tq.1, 100, .inl tx)), (xh, .inr (0, [.ref xhc, .int (nI st286), .int (nI nx286)])), (xhc, .inl (tq.1, 7365, .inl hc286)), (x0, .inr (7, [.ref xl, .ref xh, .ref xt, .ref xp, .ref xo, .ref xu, .ref xw])), (xl, .inr (1, [.ref xlc])), (xlc, .inl (tq.1, 1473, .inl cw86)), (xu, .inr (5, [.ref xus])), (xus, .inl (tq.1, 6, .inl uf2281))] H := hP
        have hD : va_D AA [(xt, .inr (6, [.ref xtc, .int (nI tl)])), (xtc, .inl (tq.1, 100, .inl tx)), (xh, .inr (0, [.ref xhc, .int (nI st286), .int (nI nx286)])), (xhc, .inl (tq.1, 7365, .inl hc286)), (x0, .inr (7, [.ref xl, .ref xh, .ref xt, .ref xp, .ref xo, .ref xu, .ref xw])), (xl, .inr (1, [.ref xlc])), (xlc, .inl (tq.1, 1473, .inl cw86)), (xu, .inr (5, [.ref xus])), (xus, .inl (tq.1, 6, .inl uf2281))] := hD
        subst hw281
        refine r_top (show (etR s1 (nI (nE s)) (nI 8)) = (me s1 (nE s) 6) from (et_ (by omega) (by omega) (by omega))) ?_
        refine r_top (show (me s1 (nE s) 6) = (-100009) from q7) ?_
        refine lv_ldc hx hb hown k19 dL_writes_284 ?_
        refine r_icmp_ne (tgt := 323) hx hb (by decide : ((-100009) : Int32).toInt = (-100009)) (by decide : ((-100009) : Int32).toInt = (-100009)) dL_writes_286 (by decide) (fun c286 => False.elim (by omega)) (fun c286 => ?_)
        refine lv_aload_n hx hb dL_writes_289 rfl (lv_at hl 7 rfl) ?_
        refine lv_iconst (v := (nI 3)) hx hb dL_writes_290 (by decide) ?_
        refine call_x (va_runV (As := [.int (nI 3)]) (rest := []) ⟨hx, hb, hml, hown, hts⟩ (kX7_count ln dg tq (x0 := x0) (xl := xl) (xh := xh) (xt := xt) (xp := xp) (xo := xo) (xu := xu) (xw := xw) (xlc := xlc) (c := cw86) (s := s1) (hF := hF1) (xhc := xhc) (st := st286) (nx := nx286) (hc := hc286) (xtc := xtc) (tl := tl) (tx := tx) (x := (nI 3)) H.size) (cwV 1 hts gL_writes_X7_count rfl rfl rfl hdX7_count ⟨Nat.le_of_ble_eq_true rfl, Nat.le_of_ble_eq_true rfl⟩) (preVR hK hN hP [4, 5, 6, 2, 3, 0, 1] rfl 4 rfl rfl [.int (nI 3)]) rfl rfl hl.1 rfl (lv_room (Nat.le_of_ble_eq_true rfl)) dL_writes_291 ⟨Nat.le_refl _, Nat.le_refl _⟩) hP hS hA (fun H locs hP hS => ?_)
        refine r_top (show (ctR s1 st286 tl (nI 3)) = (nI (nB s1)) from ct_ (by omega)) ?_
        refine r_if_eq (tgt := 319) hx hb (nI_tI (by omega)) dL_writes_294 (by decide) (fun c294 => ?_) (fun c294 => False.elim (by omega))
        refine lv_iconst (v := (nI 1)) hx hb dL_writes_319 (by decide) ?_
        refine lv_goto (tgt := 324) hx hb dL_writes_320 (by decide) ?_
        exact hret (nI 1) (cw86, hc286, st286, nx286, uf2281) H locs _ ls (show (nI 1) = (nI 1) ∧ (∃ s2, LX s2 cw86 st286 nx286) from (⟨rfl, s1, hL1⟩)) rfl (hP.sub [4, 5, 6, 2, 3, 0, 1, 7, 8] rfl) (hD.sub [4, 5, 6, 2, 3, 0, 1, 7, 8] (by decide) rfl) hS dL_writes_324
      · skip
        obtain ⟨hne, hpl, hca⟩ := hneg c174
        refine lv_iload_n hx hb dL_writes_177 rfl (lv_at hl 6 rfl) ?_
        refine r_if_gt (tgt := 202) hx hb (nI_tI (by omega)) dL_writes_178 (by decide) (fun c178 => ?_) (fun c178 => ?_)
        · skip
          refine lv_aload_n hx hb dL_writes_202 rfl (lv_at hl 7 rfl) ?_
          refine lv_iconst (v := (nI 0)) hx hb dL_writes_203 (by decide) ?_
          refine call_x (va_runV (As := [.int (nI 0)]) (rest := []) ⟨hx, hb, hml, hown, hts⟩ (kX7_count ln dg tq (x0 := x0) (xl := xl) (xh := xh) (xt := xt) (xp := xp) (xo := xo) (xu := xu) (xw := xw) (xlc := xlc) (c := cw86) (s := s1) (hF := hF1) (xhc := xhc) (st := st286) (nx := nx286) (hc := hc286) (xtc := xtc) (tl := tl) (tx := tx) (x := (nI 0)) H.size) (cwV 1 hts gL_writes_X7_count rfl rfl rfl hdX7_count ⟨Nat.le_of_ble_eq_true rfl, Nat.le_of_ble_eq_true rfl⟩) (preVR hK hN hP [2, 3, 4, 5, 6, 0, 1] rfl 2 rfl rfl [.int (nI 0)]) rfl rfl hl.1 rfl (lv_room (Nat.le_of_ble_eq_true rfl)) dL_writes_204 ⟨Nat.le_refl _, Nat.le_refl _⟩) hP hS hA (fun H locs hP hS => ?_)
          refine r_top (show (ctR s1 st286 tl (nI 0)) = (nI (nE s1)) from ct_ (by omega)) ?_
          refine lv_iload_n hx hb dL_writes_207 rfl (lv_at hl 5 rfl) ?_
          refine r_icmp_ne (tgt := 234) hx hb (nI_tI (by omega)) (nI_tI (by omega)) dL_writes_208 (by decide) (fun c208 => False.elim (by omega)) (fun c208 => ?_)
          refine lv_aload_n hx hb dL_writes_211 rfl (lv_at hl 7 rfl) ?_
          refine lv_iconst (v := (nI 3)) hx hb dL_writes_212 (by decide) ?_
          refine call_x (va_runV (As := [.int (nI 3)]) (rest := []) ⟨hx, hb, hml, hown, hts⟩ (kX7_count ln dg tq (x0 := x0) (xl := xl) (xh := xh) (xt := xt) (xp := xp) (xo := xo) (xu := xu) (xw := xw) (xlc := xlc) (c := cw86) (s := s1) (hF := hF1) (xhc := xhc) (st := st286) (nx := nx286) (hc := hc286) (xtc := xtc) (tl := tl) (tx := tx) (x := (nI 3)) H.size) (cwV 1 hts gL_writes_X7_count rfl rfl rfl hdX7_count ⟨Nat.le_of_ble_eq_true rfl, Nat.le_of_ble_eq_true rfl⟩) (preVR hK hN hP [2, 3, 4, 5, 6, 0, 1] rfl 2 rfl rfl [.int (nI 3)]) rfl rfl hl.1 rfl (lv_room (Nat.le_of_ble_eq_true rfl)) dL_writes_213 ⟨Nat.le_refl _, Nat.le_refl _⟩) hP hS hA (fun H locs hP hS => ?_)
          refine r_top (show (ctR s1 st286 tl (nI 3)) = (nI (nB s1)) from ct_ (by omega)) ?_
          refine r_if_eq (tgt := 230) hx hb (nI_tI (by omega)) dL_writes_216 (by decide) (fun c216 => ?_) (fun c216 => False.elim (by omega))
          refine lv_iconst (v := (nI 1)) hx hb dL_writes_230 (by decide) ?_
          refine lv_goto (tgt := 235) hx hb dL_writes_231 (by decide) ?_
          exact hret (nI 1) (cw86, hc286, st286, nx286, uf286) H locs _ ls (show (nI 1) = (nI 1) ∧ (∃ s2, LX s2 cw86 st286 nx286) from (⟨rfl, s1, hL1⟩)) rfl (hP.sub [2, 3, 4, 5, 6, 0, 1, 7, 8] rfl) (hD.sub [2, 3, 4, 5, 6, 0, 1, 7, 8] (by decide) rfl) hS dL_writes_235
        · skip
          refine lv_iload_n hx hb dL_writes_181 rfl (lv_at hl 5 rfl) ?_
          refine lv_bipush (v := (nI 60)) hx hb dL_writes_182 (by decide) ?_
          refine r_icmp_ne (tgt := 190) hx hb (nI_tI (by omega)) (nI_tI (by omega)) dL_writes_184 (by decide) (fun c184 => ?_) (fun c184 => ?_)
          · skip
            refine lv_iload hx hb dL_writes_190 (lv_at hl 1 rfl) ?_
            refine lv_iconst (v := (nI 1)) hx hb dL_writes_192 (by decide) ?_
            refine r_icmp_eq (tgt := 202) hx hb (nI_tI (by omega)) (nI_tI (by omega)) dL_writes_193 (by decide) (fun c193 => ?_) (fun c193 => ?_)
            · skip
              refine lv_aload_n hx hb dL_writes_202 rfl (lv_at hl 7 rfl) ?_
              refine lv_iconst (v := (nI 0)) hx hb dL_writes_203 (by decide) ?_
              refine call_x (va_runV (As := [.int (nI 0)]) (rest := []) ⟨hx, hb, hml, hown, hts⟩ (kX7_count ln dg tq (x0 := x0) (xl := xl) (xh := xh) (xt := xt) (xp := xp) (xo := xo) (xu := xu) (xw := xw) (xlc := xlc) (c := cw86) (s := s1) (hF := hF1) (xhc := xhc) (st := st286) (nx := nx286) (hc := hc286) (xtc := xtc) (tl := tl) (tx := tx) (x := (nI 0)) H.size) (cwV 1 hts gL_writes_X7_count rfl rfl rfl hdX7_count ⟨Nat.le_of_ble_eq_true rfl, Nat.le_of_ble_eq_true rfl⟩) (preVR hK hN hP [2, 3, 4, 5, 6, 0, 1] rfl 2 rfl rfl [.int (nI 0)]) rfl rfl hl.1 rfl (lv_room (Nat.le_of_ble_eq_true rfl)) dL_writes_204 ⟨Nat.le_refl _, Nat.le_refl _⟩) hP hS hA (fun H locs hP hS => ?_)
              refine r_top (show (ctR s1 st286 tl (nI 0)) = (nI (nE s1)) from ct_ (by omega)) ?_
              refine lv_iload_n hx hb dL_writes_207 rfl (lv_at hl 5 rfl) ?_
              refine r_icmp_ne (tgt := 234) hx hb (nI_tI (by omega)) (nI_tI (by omega)) dL_writes_208 (by decide) (fun c208 => False.elim (by omega)) (fun c208 => ?_)
              refine lv_aload_n hx hb dL_writes_211 rfl (lv_at hl 7 rfl) ?_
              refine lv_iconst (v := (nI 3)) hx hb dL_writes_212 (by decide) ?_
              refine call_x (va_runV (As := [.int (nI 3)]) (rest := []) ⟨hx, hb, hml, hown, hts⟩ (kX7_count ln dg tq (x0 := x0) (xl := xl) (xh := xh) (xt := xt) (xp := xp) (xo := xo) (xu := xu) (xw := xw) (xlc := xlc) (c := cw86) (s := s1) (hF := hF1) (xhc := xhc) (st := st286) (nx := nx286) (hc := hc286) (xtc := xtc) (tl := tl) (tx := tx) (x := (nI 3)) H.size) (cwV 1 hts gL_writes_X7_count rfl rfl rfl hdX7_count ⟨Nat.le_of_ble_eq_true rfl, Nat.le_of_ble_eq_true rfl⟩) (preVR hK hN hP [2, 3, 4, 5, 6, 0, 1] rfl 2 rfl rfl [.int (nI 3)]) rfl rfl hl.1 rfl (lv_room (Nat.le_of_ble_eq_true rfl)) dL_writes_213 ⟨Nat.le_refl _, Nat.le_refl _⟩) hP hS hA (fun H locs hP hS => ?_)
              refine r_top (show (ctR s1 st286 tl (nI 3)) = (nI (nB s1)) from ct_ (by omega)) ?_
              refine r_if_eq (tgt := 230) hx hb (nI_tI (by omega)) dL_writes_216 (by decide) (fun c216 => ?_) (fun c216 => False.elim (by omega))
              refine lv_iconst (v := (nI 1)) hx hb dL_writes_230 (by decide) ?_
              refine lv_goto (tgt := 235) hx hb dL_writes_231 (by decide) ?_
              exact hret (nI 1) (cw86, hc286, st286, nx286, uf286) H locs _ ls (show (nI 1) = (nI 1) ∧ (∃ s2, LX s2 cw86 st286 nx286) from (⟨rfl, s1, hL1⟩)) rfl (hP.sub [2, 3, 4, 5, 6, 0, 1, 7, 8] rfl) (hD.sub [2, 3, 4, 5, 6, 0, 1, 7, 8] (by decide) rfl) hS dL_writes_235
            · skip
              refine lv_iload hx hb dL_writes_196 (lv_at hl 1 rfl) ?_
              refine lv_iconst (v := (nI 3)) hx hb dL_writes_198 (by decide) ?_
              refine r_icmp_ne (tgt := 234) hx hb (nI_tI (by omega)) (nI_tI (by omega)) dL_writes_199 (by decide) (fun c199 => False.elim (by omega)) (fun c199 => ?_)
              refine lv_aload_n hx hb dL_writes_202 rfl (lv_at hl 7 rfl) ?_
              refine lv_iconst (v := (nI 0)) hx hb dL_writes_203 (by decide) ?_
              refine call_x (va_runV (As := [.int (nI 0)]) (rest := []) ⟨hx, hb, hml, hown, hts⟩ (kX7_count ln dg tq (x0 := x0) (xl := xl) (xh := xh) (xt := xt) (xp := xp) (xo := xo) (xu := xu) (xw := xw) (xlc := xlc) (c := cw86) (s := s1) (hF := hF1) (xhc := xhc) (st := st286) (nx := nx286) (hc := hc286) (xtc := xtc) (tl := tl) (tx := tx) (x := (nI 0)) H.size) (cwV 1 hts gL_writes_X7_count rfl rfl rfl hdX7_count ⟨Nat.le_of_ble_eq_true rfl, Nat.le_of_ble_eq_true rfl⟩) (preVR hK hN hP [2, 3, 4, 5, 6, 0, 1] rfl 2 rfl rfl [.int (nI 0)]) rfl rfl hl.1 rfl (lv_room (Nat.le_of_ble_eq_true rfl)) dL_writes_204 ⟨Nat.le_refl _, Nat.le_refl _⟩) hP hS hA (fun H locs hP hS => ?_)
              refine r_top (show (ctR s1 st286 tl (nI 0)) = (nI (nE s1)) from ct_ (by omega)) ?_
              refine lv_iload_n hx hb dL_writes_207 rfl (lv_at hl 5 rfl) ?_
              refine r_icmp_ne (tgt := 234) hx hb (nI_tI (by omega)) (nI_tI (by omega)) dL_writes_208 (by decide) (fun c208 => False.elim (by omega)) (fun c208 => ?_)
              refine lv_aload_n hx hb dL_writes_211 rfl (lv_at hl 7 rfl) ?_
              refine lv_iconst (v := (nI 3)) hx hb dL_writes_212 (by decide) ?_
              refine call_x (va_runV (As := [.int (nI 3)]) (rest := []) ⟨hx, hb, hml, hown, hts⟩ (kX7_count ln dg tq (x0 := x0) (xl := xl) (xh := xh) (xt := xt) (xp := xp) (xo := xo) (xu := xu) (xw := xw) (xlc := xlc) (c := cw86) (s := s1) (hF := hF1) (xhc := xhc) (st := st286) (nx := nx286) (hc := hc286) (xtc := xtc) (tl := tl) (tx := tx) (x := (nI 3)) H.size) (cwV 1 hts gL_writes_X7_count rfl rfl rfl hdX7_count ⟨Nat.le_of_ble_eq_true rfl, Nat.le_of_ble_eq_true rfl⟩) (preVR hK hN hP [2, 3, 4, 5, 6, 0, 1] rfl 2 rfl rfl [.int (nI 3)]) rfl rfl hl.1 rfl (lv_room (Nat.le_of_ble_eq_true rfl)) dL_writes_213 ⟨Nat.le_refl _, Nat.le_refl _⟩) hP hS hA (fun H locs hP hS => ?_)
              refine r_top (show (ctR s1 st286 tl (nI 3)) = (nI (nB s1)) from ct_ (by omega)) ?_
              refine r_if_eq (tgt := 230) hx hb (nI_tI (by omega)) dL_writes_216 (by decide) (fun c216 => ?_) (fun c216 => False.elim (by omega))
              refine lv_iconst (v := (nI 1)) hx hb dL_writes_230 (by decide) ?_
              refine lv_goto (tgt := 235) hx hb dL_writes_231 (by decide) ?_
              exact hret (nI 1) (cw86, hc286, st286, nx286, uf286) H locs _ ls (show (nI 1) = (nI 1) ∧ (∃ s2, LX s2 cw86 st286 nx286) from (⟨rfl, s1, hL1⟩)) rfl (hP.sub [2, 3, 4, 5, 6, 0, 1, 7, 8] rfl) (hD.sub [2, 3, 4, 5, 6, 0, 1, 7, 8] (by decide) rfl) hS dL_writes_235
          · skip
            refine lv_goto (tgt := 202) hx hb dL_writes_187 (by decide) ?_
            refine lv_aload_n hx hb dL_writes_202 rfl (lv_at hl 7 rfl) ?_
            refine lv_iconst (v := (nI 0)) hx hb dL_writes_203 (by decide) ?_
            refine call_x (va_runV (As := [.int (nI 0)]) (rest := []) ⟨hx, hb, hml, hown, hts⟩ (kX7_count ln dg tq (x0 := x0) (xl := xl) (xh := xh) (xt := xt) (xp := xp) (xo := xo) (xu := xu) (xw := xw) (xlc := xlc) (c := cw86) (s := s1) (hF := hF1) (xhc := xhc) (st := st286) (nx := nx286) (hc := hc286) (xtc := xtc) (tl := tl) (tx := tx) (x := (nI 0)) H.size) (cwV 1 hts gL_writes_X7_count rfl rfl rfl hdX7_count ⟨Nat.le_of_ble_eq_true rfl, Nat.le_of_ble_eq_true rfl⟩) (preVR hK hN hP [2, 3, 4, 5, 6, 0, 1] rfl 2 rfl rfl [.int (nI 0)]) rfl rfl hl.1 rfl (lv_room (Nat.le_of_ble_eq_true rfl)) dL_writes_204 ⟨Nat.le_refl _, Nat.le_refl _⟩) hP hS hA (fun H locs hP hS => ?_)
            refine r_top (show (ctR s1 st286 tl (nI 0)) = (nI (nE s1)) from ct_ (by omega)) ?_
            refine lv_iload_n hx hb dL_writes_207 rfl (lv_at hl 5 rfl) ?_
            refine r_icmp_ne (tgt := 234) hx hb (nI_tI (by omega)) (nI_tI (by omega)) dL_writes_208 (by decide) (fun c208 => False.elim (by omega)) (fun c208 => ?_)
            refine lv_aload_n hx hb dL_writes_211 rfl (lv_at hl 7 rfl) ?_
            refine lv_iconst (v := (nI 3)) hx hb dL_writes_212 (by decide) ?_
            refine call_x (va_runV (As := [.int (nI 3)]) (rest := []) ⟨hx, hb, hml, hown, hts⟩ (kX7_count ln dg tq (x0 := x0) (xl := xl) (xh := xh) (xt := xt) (xp := xp) (xo := xo) (xu := xu) (xw := xw) (xlc := xlc) (c := cw86) (s := s1) (hF := hF1) (xhc := xhc) (st := st286) (nx := nx286) (hc := hc286) (xtc := xtc) (tl := tl) (tx := tx) (x := (nI 3)) H.size) (cwV 1 hts gL_writes_X7_count rfl rfl rfl hdX7_count ⟨Nat.le_of_ble_eq_true rfl, Nat.le_of_ble_eq_true rfl⟩) (preVR hK hN hP [2, 3, 4, 5, 6, 0, 1] rfl 2 rfl rfl [.int (nI 3)]) rfl rfl hl.1 rfl (lv_room (Nat.le_of_ble_eq_true rfl)) dL_writes_213 ⟨Nat.le_refl _, Nat.le_refl _⟩) hP hS hA (fun H locs hP hS => ?_)
            refine r_top (show (ctR s1 st286 tl (nI 3)) = (nI (nB s1)) from ct_ (by omega)) ?_
            refine r_if_eq (tgt := 230) hx hb (nI_tI (by omega)) dL_writes_216 (by decide) (fun c216 => ?_) (fun c216 => False.elim (by omega))
            refine lv_iconst (v := (nI 1)) hx hb dL_writes_230 (by decide) ?_
            refine lv_goto (tgt := 235) hx hb dL_writes_231 (by decide) ?_
            exact hret (nI 1) (cw86, hc286, st286, nx286, uf286) H locs _ ls (show (nI 1) = (nI 1) ∧ (∃ s2, LX s2 cw86 st286 nx286) from (⟨rfl, s1, hL1⟩)) rfl (hP.sub [2, 3, 4, 5, 6, 0, 1, 7, 8] rfl) (hD.sub [2, 3, 4, 5, 6, 0, 1, 7, 8] (by decide) rfl) hS dL_writes_235
