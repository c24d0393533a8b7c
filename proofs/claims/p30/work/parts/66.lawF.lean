theorem hdL_acts : yL_acts.cls = RL ∧ yL_acts.cls ≠ "java/lang/invoke/MethodHandle" ∧ yL_acts.cls ≠ "java/lang/invoke/VarHandle" ∧ (parseMethodDescriptor yL_acts.desc).map (fun d => d.parameters.length) = some 2 := by decide +kernel
set_option maxHeartbeats 4000000 in
set_option maxRecDepth 100000 in
theorem kL_acts (ln : Launch) (dg : va_G) (tq : ClassId × ClassId) (x0 xl xh xt xp xo xu xw : Nat)(xlc : Nat) (c : Row) (s : Row)(xhc : Nat) (st nx : Nat) (hc : Row)(hL : LX s c st nx)(xtc : Nat) (tl : Nat) (tx : Row)(xus : Nat) (uf : Row)(xwe : Nat) (wl : Int32) (wf : Row) (y : Nat) (hy : y < 2147483648) : MW ln yL_acts wsL_acts (rmm 7 161) dg tq [.ref x0, .int (nI y)] [(x0, .inr (7, [.ref xl, .ref xh, .ref xt, .ref xp, .ref xo, .ref xu, .ref xw])), (xl, .inr (1, [.ref xlc])), (xlc, .inl (tq.1, 1473, .inl c)), (xh, .inr (0, [.ref xhc, .int (nI st), .int (nI nx)])), (xhc, .inl (tq.1, 7365, .inl hc)), (xt, .inr (6, [.ref xtc, .int (nI tl)])), (xtc, .inl (tq.1, 100, .inl tx)), (xu, .inr (5, [.ref xus])), (xus, .inl (tq.1, 6, .inl uf)), (xw, .inr (3, [.ref xwe, .int wl])), (xwe, .inl (tq.1, 60, .inl wf))] (fun (r : Int32) (u : Row × Row × Nat × Nat × Row × Int32 × Row) => r = (nI 1) ∧ (∃ s2, LX s2 u.1 u.2.2.1 u.2.2.2.1)) (fun u => [(x0, .inr (7, [.ref xl, .ref xh, .ref xt, .ref xp, .ref xo, .ref xu, .ref xw])), (xl, .inr (1, [.ref xlc])), (xlc, .inl (tq.1, 1473, .inl u.1)), (xh, .inr (0, [.ref xhc, .int (nI u.2.2.1), .int (nI u.2.2.2.1)])), (xhc, .inl (tq.1, 7365, .inl u.2.1)), (xt, .inr (6, [.ref xtc, .int (nI tl)])), (xtc, .inl (tq.1, 100, .inl tx)), (xu, .inr (5, [.ref xus])), (xus, .inl (tq.1, 6, .inl u.2.2.2.2.1)), (xw, .inr (3, [.ref xwe, .int u.2.2.2.2.2.1])), (xwe, .inl (tq.1, 60, .inl u.2.2.2.2.2.2))]) := by
  refine MW.enter cL_acts 19 .boolean (by decide) rfl rfl (Nat.le_of_ble_eq_true rfl) ?_
  intro pP eE sS mM aA bB mT cC QQ AA hA hAT hret H locs hP hD hS ls hl
  obtain ⟨hx, hb, hml, hown, hts, hK, hN⟩ := hAT
  have hown : sS.vm.findClass RL = some mM.cls := hown
  have hl : lv_has ls 19 [(0, .ref x0), (1, .int (nI y))] := hl
  have k65 := hts (.constant RL 65 (-100003)) (List.mem_of_getElem? (i := 2) rfl)
  have k64 := hts (.constant RL 64 (-100002)) (List.mem_of_getElem? (i := 1) rfl)
  have k69 := hts (.constant RL 69 (-100001)) (List.mem_of_getElem? (i := 3) rfl)
  obtain ⟨hF, hX, hst, hnx⟩ := id hL
  obtain ⟨hR, hW, hs0, hs1⟩ := id hF
  have hn60 := hW.n60
  have hb10 := hW.b10
  have hs8 := hW.s8
  have hhn := hW.hn
  have hcl := cntF_le (loudB s) (nB s)
  have hn1 := hW.n1
  have hdl := dep_le hW _ hW.hn
  have hd1 := dep_ge1 s (hE s)
  obtain ⟨z, hz, hzy⟩ : ∃ z, z < 134217728 ∧ y / 16 = z := ⟨_, by omega, rfl⟩
  obtain ⟨w_, hw16, hwy⟩ : ∃ w, w < 16 ∧ y % 16 = w := ⟨_, by omega, rfl⟩
  refine lv_iload_n hx hb dL_acts_0 rfl (lv_at hl 1 rfl) ?_
  refine lv_bipush (v := (nI 16)) hx hb dL_acts_1 (by decide) ?_
  refine r_idiv_n hx hb (by omega) (by omega) (by omega) dL_acts_3 ?_
  refine r_top (show (nI (y / 16)) = (nI z) from congrArg nI hzy) ?_
  refine lv_istore_n (lv' := [(2, .int (nI z)), (0, .ref x0), (1, .int (nI y))]) hx hb dL_acts_4 rfl hl (by decide) rfl (fun ls hl => ?_)
  refine lv_aload_n hx hb dL_acts_5 rfl (lv_at hl 1 rfl) ?_
  refine lv_iconst (v := (nI 0)) hx hb dL_acts_6 (by decide) ?_
  refine call_x (va_runV (As := [.int (nI 0)]) (rest := []) ⟨hx, hb, hml, hown, hts⟩ (kX7_count ln dg tq (x0 := x0) (xl := xl) (xh := xh) (xt := xt) (xp := xp) (xo := xo) (xu := xu) (xw := xw) (xlc := xlc) (c := c) (s := s) (hF := hF) (xhc := xhc) (st := st) (nx := nx) (hc := hc) (xtc := xtc) (tl := tl) (tx := tx) (x := (nI 0)) H.size) (cwV 1 hts gL_acts_X7_count rfl rfl rfl hdX7_count ⟨Nat.le_of_ble_eq_true rfl, Nat.le_of_ble_eq_true rfl⟩) (preVR hK hN hP [0, 1, 2, 3, 4, 5, 6] rfl 0 rfl rfl [.int (nI 0)]) rfl rfl hl.1 rfl (lv_room (Nat.le_of_ble_eq_true rfl)) dL_acts_7 ⟨Nat.le_refl _, Nat.le_refl _⟩) hP hS hA (fun H locs hP hS => ?_)
  refine r_top (show (ctR s st tl (nI 0)) = (nI (nE s)) from ct_ (by omega)) ?_
  refine lv_istore_n (lv' := [(3, .int (nI (nE s))), (2, .int (nI z)), (0, .ref x0), (1, .int (nI y))]) hx hb dL_acts_10 rfl hl (by decide) rfl (fun ls hl => ?_)
  refine lv_iload_n hx hb dL_acts_11 rfl (lv_at hl 3 rfl) ?_
  refine lv_bipush (v := (nI 16)) hx hb dL_acts_12 (by decide) ?_
  refine r_irem_n hx hb (by omega) (by omega) (by omega) dL_acts_14 ?_
  refine r_top (show (nI (y % 16)) = (nI w_) from congrArg nI hwy) ?_
  rcases (show w_ = 0 ∨ w_ = 1 ∨ w_ = 2 ∨ w_ = 3 ∨ w_ = 4 ∨ w_ = 5 ∨ w_ = 6 ∨ w_ = 7 ∨ w_ = 8 ∨ w_ = 9 ∨ w_ = 10 ∨ w_ = 11 ∨ w_ = 12 ∨ w_ = 13 ∨ w_ = 14 ∨ w_ = 15 by omega) with rfl | rfl | rfl | rfl | rfl | rfl | rfl | rfl | rfl | rfl | rfl | rfl | rfl | rfl | rfl | rfl
  · skip
    refine lv_tableIn (off := 45) (tgt := 60) hx hb dL_acts_15 (by decide) (by decide) rfl (by decide) ?_
    obtain ⟨e_, he_, hez⟩ : ∃ e, e < nE s ∧ z % nE s = e := ⟨_, Nat.mod_lt _ (by omega), rfl⟩
    refine lv_iload_n hx hb dL_acts_60 rfl (lv_at hl 1 rfl) ?_
    refine lv_iload_n hx hb dL_acts_61 rfl (lv_at hl 0 rfl) ?_
    refine r_irem_n hx hb (by omega) (by omega) (by omega) dL_acts_62 ?_
    refine r_top (show (nI (z % (nE s))) = (nI e_) from congrArg nI hez) ?_
    refine lv_istore (lv' := [(4, .int (nI e_)), (3, .int (nI (nE s))), (2, .int (nI z)), (0, .ref x0), (1, .int (nI y))]) hx hb dL_acts_63 hl (by decide) rfl (fun ls hl => ?_)
    refine lv_aload_n hx hb dL_acts_65 rfl (lv_at hl 3 rfl) ?_
    refine lv_iload hx hb dL_acts_66 (lv_at hl 0 rfl) ?_
    refine lv_bipush (v := (nI 7)) hx hb dL_acts_68 (by decide) ?_
    refine call_w (wr := [(xh, .inr (0, [.ref xhc, .int (nI st), .int (nI nx)])), (xhc, .inl (tq.1, 7365, .inl hc)), (xt, .inr (6, [.ref xtc, .int (nI tl)])), (xtc, .inl (tq.1, 100, .inl tx)), (xw, .inr (3, [.ref xwe, .int wl])), (xwe, .inl (tq.1, 60, .inl wf))]) (va_runV (As := [.int (nI e_), .int (nI 7)]) (rest := []) ⟨hx, hb, hml, hown, hts⟩ (kX7_entry ln dg tq (x0 := x0) (xl := xl) (xh := xh) (xt := xt) (xp := xp) (xo := xo) (xu := xu) (xw := xw) (xlc := xlc) (c := c) (s := s) (hF := hF) (xus := xus) (uf := uf) (x := (nI e_)) (w := (nI 7)) H.size) (cwV 2 hts gL_acts_X7_entry rfl rfl rfl hdX7_entry ⟨Nat.le_of_ble_eq_true rfl, Nat.le_of_ble_eq_true rfl⟩) (preVB hK hN hP hD [0, 1, 2, 7, 8] rfl rfl rfl 0 rfl rfl [.int (nI e_), .int (nI 7)]) rfl rfl hl.1 rfl (lv_room (Nat.le_of_ble_eq_true rfl)) dL_acts_70 ⟨Nat.le_refl _, Nat.le_refl _⟩) hP hD hS hA [0, 1, 2, 7, 8] [3, 4, 5, 6, 9, 10] rfl rfl (by decide) (by decide) (fun r70 u70 H locs hw70 hP hD hS => ?_)
    obtain ⟨uf270, rfl⟩ : ∃ z, z = u70 := ⟨_, rfl⟩
    have hP : va_P dg vwCl [(xh, .inr (0, [.ref xhc, .int (nI st), .int (nI nx)])), (xhc, .inl (tq.1, 7365, .inl hc)), (xt, .inr (6, [.ref xtc, .int (nI tl)])), (xtc, .inl (tq.1, 100, .inl tx)), (xw, .inr (3, [.ref xwe, .int wl])), (xwe, .inl (tq.1, 60, .inl wf)), (x0, .inr (7, [.ref xl, .ref xh, .ref xt, .ref xp, .ref xo, .ref xu, .ref xw])), (xl, .inr (1, [.ref xlc])), (xlc, .inl (tq.1, 1473, .inl c)), (xu, .inr (5, [.ref xus])), (xus, .inl (tq.1, 6, .inl uf270))] H := hP
    have hD : va_D AA [(xh, .inr (0, [.ref xhc, .int (nI st), .int (nI nx)])), (xhc, .inl (tq.1, 7365, .inl hc)), (xt, .inr (6, [.ref xtc, .int (nI tl)])), (xtc, .inl (tq.1, 100, .inl tx)), (xw, .inr (3, [.ref xwe, .int wl])), (xwe, .inl (tq.1, 60, .inl wf)), (x0, .inr (7, [.ref xl, .ref xh, .ref xt, .ref xp, .ref xo, .ref xu, .ref xw])), (xl, .inr (1, [.ref xlc])), (xlc, .inl (tq.1, 1473, .inl c)), (xu, .inr (5, [.ref xus])), (xus, .inl (tq.1, 6, .inl uf270))] := hD
    subst hw70
    refine r_top (show (etR s (nI e_) (nI 7)) = (bI (onP s e_ (hE s))) from (et_ (by omega) (by omega) (by omega))) ?_
    refine lv_istore (lv' := [(5, .int (bI (onP s e_ (hE s)))), (4, .int (nI e_)), (3, .int (nI (nE s))), (2, .int (nI z)), (0, .ref x0), (1, .int (nI y))]) hx hb dL_acts_73 hl (by decide) rfl (fun ls hl => ?_)
    refine lv_aload_n hx hb dL_acts_75 rfl (lv_at hl 4 rfl) ?_
    refine lv_iconst (v := (nI 3)) hx hb dL_acts_76 (by decide) ?_
    refine call_x (va_runV (As := [.int (nI 3)]) (rest := []) ⟨hx, hb, hml, hown, hts⟩ (kX7_count ln dg tq (x0 := x0) (xl := xl) (xh := xh) (xt := xt) (xp := xp) (xo := xo) (xu := xu) (xw := xw) (xlc := xlc) (c := c) (s := s) (hF := hF) (xhc := xhc) (st := st) (nx := nx) (hc := hc) (xtc := xtc) (tl := tl) (tx := tx) (x := (nI 3)) H.size) (cwV 1 hts gL_acts_X7_count rfl rfl rfl hdX7_count ⟨Nat.le_of_ble_eq_true rfl, Nat.le_of_ble_eq_true rfl⟩) (preVR hK hN hP [6, 7, 8, 0, 1, 2, 3] rfl 6 rfl rfl [.int (nI 3)]) rfl rfl hl.1 rfl (lv_room (Nat.le_of_ble_eq_true rfl)) dL_acts_77 ⟨Nat.le_refl _, Nat.le_refl _⟩) hP hS hA (fun H locs hP hS => ?_)
    refine r_top (show (ctR s st tl (nI 3)) = (nI (nB s)) from ct_ (by omega)) ?_
    refine lv_istore (lv' := [(6, .int (nI (nB s))), (5, .int (bI (onP s e_ (hE s)))), (4, .int (nI e_)), (3, .int (nI (nE s))), (2, .int (nI z)), (0, .ref x0), (1, .int (nI y))]) hx hb dL_acts_80 hl (by decide) rfl (fun ls hl => ?_)
    refine lv_aload_n hx hb dL_acts_82 rfl (lv_at hl 5 rfl) ?_
    refine lv_iload hx hb dL_acts_83 (lv_at hl 2 rfl) ?_
    refine call_w (wr := [(xt, .inr (6, [.ref xtc, .int (nI tl)])), (xtc, .inl (tq.1, 100, .inl tx)), (xu, .inr (5, [.ref xus])), (xus, .inl (tq.1, 6, .inl uf270))]) (va_runV (As := [.int (nI e_)]) (rest := []) ⟨hx, hb, hml, hown, hts⟩ (kX7_goBack ln dg tq (x0 := x0) (xl := xl) (xh := xh) (xt := xt) (xp := xp) (xo := xo) (xu := xu) (xw := xw) (xlc := xlc) (c := c) (s := s) (hF := hF) (xhc := xhc) (st := st) (nx := nx) (hc := hc) (hst := (by omega)) (hnx := (by omega)) (xwe := xwe) (wl := wl) (wf := wf) (x := (nI e_)) H.size) (cwV 1 hts gL_acts_X7_goBack rfl rfl rfl hdX7_goBack ⟨Nat.le_of_ble_eq_true rfl, Nat.le_of_ble_eq_true rfl⟩) (preVB hK hN hP hD [6, 7, 8, 0, 1, 4, 5] rfl rfl rfl 6 rfl rfl [.int (nI e_)]) rfl rfl hl.1 rfl (lv_room (Nat.le_of_ble_eq_true rfl)) dL_acts_85 ⟨Nat.le_refl _, Nat.le_refl _⟩) hP hD hS hA [6, 7, 8, 0, 1, 4, 5] [2, 3, 9, 10] rfl rfl (by decide) (by decide) (fun r85 u85 H locs hw85 hP hD hS => ?_)
    obtain ⟨cw85, hc285, st285, nx285, wl285, wf285⟩ := u85
    have hP : va_P dg vwCl [(xt, .inr (6, [.ref xtc, .int (nI tl)])), (xtc, .inl (tq.1, 100, .inl tx)), (xu, .inr (5, [.ref xus])), (xus, .inl (tq.1, 6, .inl uf270)), (x0, .inr (7, [.ref xl, .ref xh, .ref xt, .ref xp, .ref xo, .ref xu, .ref xw])), (xl, .inr (1, [.ref xlc])), (xlc, .inl (tq.1, 1473, .inl cw85)), (xh, .inr (0, [.ref xhc, .int (nI st285), .int (nI nx285)])), (xhc, .inl (tq.1, 7365, .inl hc285)), (xw, .inr (3, [.ref xwe, .int wl285])), (xwe, .inl (tq.1, 60, .inl wf285))] H := hP
    have hD : va_D AA [(xt, .inr (6, [.ref xtc, .int (nI tl)])), (xtc, .inl (tq.1, 100, .inl tx)), (xu, .inr (5, [.ref xus])), (xus, .inl (tq.1, 6, .inl uf270)), (x0, .inr (7, [.ref xl, .ref xh, .ref xt, .ref xp, .ref xo, .ref xu, .ref xw])), (xl, .inr (1, [.ref xlc])), (xlc, .inl (tq.1, 1473, .inl cw85)), (xh, .inr (0, [.ref xhc, .int (nI st285), .int (nI nx285)])), (xhc, .inl (tq.1, 7365, .inl hc285)), (xw, .inr (3, [.ref xwe, .int wl285])), (xwe, .inl (tq.1, 60, .inl wf285))] := hD
    obtain ⟨hr85, hw85⟩ := hw85
    subst hr85
    obtain ⟨tv_, htv_⟩ : ∃ x : Int32, x = gbR s (nI e_) := ⟨_, rfl⟩
    obtain ⟨s1, hL1, hKS, hne1, hof, hon⟩ := A_gb hL he_ htv_ hw85
    obtain ⟨hF1, hX1, hst1, hnx1⟩ := id hL1
    obtain ⟨hR1, hW1, -, -⟩ := id hF1
    have hn601 := hW1.n60
    have hn11 := hW1.n1
    have hb101 := hW1.b10
    have hs81 := hW1.s8
    have hhn1 := hW1.hn
    refine r_top (show (gbR s (nI e_)) = tv_ from htv_.symm) ?_
    refine lv_istore (lv' := [(7, .int tv_), (6, .int (nI (nB s))), (5, .int (bI (onP s e_ (hE s)))), (4, .int (nI e_)), (3, .int (nI (nE s))), (2, .int (nI z)), (0, .ref x0), (1, .int (nI y))]) hx hb dL_acts_88 hl (by decide) rfl (fun ls hl => ?_)
    refine lv_iload hx hb dL_acts_90 (lv_at hl 2 rfl) ?_
    refine r_if_ne_b (tgt := 110) hx hb dL_acts_92 (by decide) (fun c92 => ?_) (fun c92 => ?_)
    · skip
      obtain ⟨q1, q2⟩ := hon c92
      refine lv_iload hx hb dL_acts_110 (lv_at hl 0 rfl) ?_
      refine lv_ldc hx hb hown k65 dL_acts_112 ?_
      refine r_icmp_ne (tgt := 132) hx hb rfl (by decide : ((-100003) : Int32).toInt = (-100003)) dL_acts_114 (by decide) (fun c114 => ?_) (fun c114 => ?_)
      · skip
        obtain ⟨q3, q4⟩ := q2 c114
        refine lv_iload hx hb dL_acts_132 (lv_at hl 0 rfl) ?_
        refine lv_iload hx hb dL_acts_134 (lv_at hl 1 rfl) ?_
        refine r_icmp_ne (tgt := 153) hx hb rfl (nI_tI (by omega)) dL_acts_136 (by decide) (fun c136 => False.elim (by omega)) (fun c136 => ?_)
        refine lv_aload_n hx hb dL_acts_139 rfl (lv_at hl 6 rfl) ?_
        refine lv_iconst (v := (nI 1)) hx hb dL_acts_140 (by decide) ?_
        refine call_x (va_runV (As := [.int (nI 1)]) (rest := []) ⟨hx, hb, hml, hown, hts⟩ (kX7_count ln dg tq (x0 := x0) (xl := xl) (xh := xh) (xt := xt) (xp := xp) (xo := xo) (xu := xu) (xw := xw) (xlc := xlc) (c := cw85) (s := s1) (hF := hF1) (xhc := xhc) (st := st285) (nx := nx285) (hc := hc285) (xtc := xtc) (tl := tl) (tx := tx) (x := (nI 1)) H.size) (cwV 1 hts gL_acts_X7_count rfl rfl rfl hdX7_count ⟨Nat.le_of_ble_eq_true rfl, Nat.le_of_ble_eq_true rfl⟩) (preVR hK hN hP [4, 5, 6, 7, 8, 0, 1] rfl 4 rfl rfl [.int (nI 1)]) rfl rfl hl.1 rfl (lv_room (Nat.le_of_ble_eq_true rfl)) dL_acts_141 ⟨Nat.le_refl _, Nat.le_refl _⟩) hP hS hA (fun H locs hP hS => ?_)
        refine r_top (show (ctR s1 st285 tl (nI 1)) = (nI (hE s1)) from ct_ (by omega)) ?_
        refine lv_iload hx hb dL_acts_144 (lv_at hl 3 rfl) ?_
        refine r_icmp_ne (tgt := 153) hx hb (nI_tI (by omega)) (nI_tI (by omega)) dL_acts_146 (by decide) (fun c146 => False.elim (by omega)) (fun c146 => ?_)
        refine lv_iconst (v := (nI 1)) hx hb dL_acts_149 (by decide) ?_
        refine lv_goto (tgt := 154) hx hb dL_acts_150 (by decide) ?_
        exact hret (nI 1) (cw85, hc285, st285, nx285, uf270, wl285, wf285) H locs _ ls (show (nI 1) = (nI 1) ∧ (∃ s2, LX s2 cw85 st285 nx285) from (⟨rfl, s1, hL1⟩)) rfl (hP.sub [4, 5, 6, 7, 8, 0, 1, 2, 3, 9, 10] rfl) (hD.sub [4, 5, 6, 7, 8, 0, 1, 2, 3, 9, 10] (by decide) rfl) hS dL_acts_154
      · skip
        refine lv_iload hx hb dL_acts_117 (lv_at hl 1 rfl) ?_
        refine lv_bipush (v := (nI 10)) hx hb dL_acts_119 (by decide) ?_
        refine r_icmp_ne (tgt := 128) hx hb (nI_tI (by omega)) (nI_tI (by omega)) dL_acts_121 (by decide) (fun c121 => False.elim (by have q := q1 c114; omega)) (fun c121 => ?_)
        refine lv_iconst (v := (nI 1)) hx hb dL_acts_124 (by decide) ?_
        refine lv_goto (tgt := 154) hx hb dL_acts_125 (by decide) ?_
        exact hret (nI 1) (cw85, hc285, st285, nx285, uf270, wl285, wf285) H locs _ ls (show (nI 1) = (nI 1) ∧ (∃ s2, LX s2 cw85 st285 nx285) from (⟨rfl, s1, hL1⟩)) rfl (hP.sub [4, 5, 6, 7, 8, 0, 1, 2, 3, 9, 10] rfl) (hD.sub [4, 5, 6, 7, 8, 0, 1, 2, 3, 9, 10] (by decide) rfl) hS dL_acts_154
    · skip
      have q := hof c92
      refine lv_iload hx hb dL_acts_95 (lv_at hl 0 rfl) ?_
      refine lv_ldc hx hb hown k64 dL_acts_97 ?_
      refine r_icmp_ne (tgt := 106) hx hb rfl (by decide : ((-100002) : Int32).toInt = (-100002)) dL_acts_99 (by decide) (fun c99 => False.elim (by omega)) (fun c99 => ?_)
      refine lv_iconst (v := (nI 1)) hx hb dL_acts_102 (by decide) ?_
      refine lv_goto (tgt := 154) hx hb dL_acts_103 (by decide) ?_
      exact hret (nI 1) (cw85, hc285, st285, nx285, uf270, wl285, wf285) H locs _ ls (show (nI 1) = (nI 1) ∧ (∃ s2, LX s2 cw85 st285 nx285) from (⟨rfl, s1, hL1⟩)) rfl (hP.sub [4, 5, 6, 7, 8, 0, 1, 2, 3, 9, 10] rfl) (hD.sub [4, 5, 6, 7, 8, 0, 1, 2, 3, 9, 10] (by decide) rfl) hS dL_acts_154
  · skip
    refine lv_tableIn (off := 45) (tgt := 60) hx hb dL_acts_15 (by decide) (by decide) rfl (by decide) ?_
    obtain ⟨e_, he_, hez⟩ : ∃ e, e < nE s ∧ z % nE s = e := ⟨_, Nat.mod_lt _ (by omega), rfl⟩
    refine lv_iload_n hx hb dL_acts_60 rfl (lv_at hl 1 rfl) ?_
    refine lv_iload_n hx hb dL_acts_61 rfl (lv_at hl 0 rfl) ?_
    refine r_irem_n hx hb (by omega) (by omega) (by omega) dL_acts_62 ?_
    refine r_top (show (nI (z % (nE s))) = (nI e_) from congrArg nI hez) ?_
    refine lv_istore (lv' := [(4, .int (nI e_)), (3, .int (nI (nE s))), (2, .int (nI z)), (0, .ref x0), (1, .int (nI y))]) hx hb dL_acts_63 hl (by decide) rfl (fun ls hl => ?_)
    refine lv_aload_n hx hb dL_acts_65 rfl (lv_at hl 3 rfl) ?_
    refine lv_iload hx hb dL_acts_66 (lv_at hl 0 rfl) ?_
    refine lv_bipush (v := (nI 7)) hx hb dL_acts_68 (by decide) ?_
    refine call_w (wr := [(xh, .inr (0, [.ref xhc, .int (nI st), .int (nI nx)])), (xhc, .inl (tq.1, 7365, .inl hc)), (xt, .inr (6, [.ref xtc, .int (nI tl)])), (xtc, .inl (tq.1, 100, .inl tx)), (xw, .inr (3, [.ref xwe, .int wl])), (xwe, .inl (tq.1, 60, .inl wf))]) (va_runV (As := [.int (nI e_), .int (nI 7)]) (rest := []) ⟨hx, hb, hml, hown, hts⟩ (kX7_entry ln dg tq (x0 := x0) (xl := xl) (xh := xh) (xt := xt) (xp := xp) (xo := xo) (xu := xu) (xw := xw) (xlc := xlc) (c := c) (s := s) (hF := hF) (xus := xus) (uf := uf) (x := (nI e_)) (w := (nI 7)) H.size) (cwV 2 hts gL_acts_X7_entry rfl rfl rfl hdX7_entry ⟨Nat.le_of_ble_eq_true rfl, Nat.le_of_ble_eq_true rfl⟩) (preVB hK hN hP hD [0, 1, 2, 7, 8] rfl rfl rfl 0 rfl rfl [.int (nI e_), .int (nI 7)]) rfl rfl hl.1 rfl (lv_room (Nat.le_of_ble_eq_true rfl)) dL_acts_70 ⟨Nat.le_refl _, Nat.le_refl _⟩) hP hD hS hA [0, 1, 2, 7, 8] [3, 4, 5, 6, 9, 10] rfl rfl (by decide) (by decide) (fun r70 u70 H locs hw70 hP hD hS => ?_)
    obtain ⟨uf270, rfl⟩ : ∃ z, z = u70 := ⟨_, rfl⟩
    have hP : va_P dg vwCl [(xh, .inr (0, [.ref xhc, .int (nI st), .int (nI nx)])), (xhc, .inl (tq.1, 7365, .inl hc)), (xt, .inr (6, [.ref xtc, .int (nI tl)])), (xtc, .inl (tq.1, 100, .inl tx)), (xw, .inr (3, [.ref xwe, .int wl])), (xwe, .inl (tq.1, 60, .inl wf)), (x0, .inr (7, [.ref xl, .ref xh, .ref xt, .ref xp, .ref xo, .ref xu, .ref xw])), (xl, .inr (1, [.ref xlc])), (xlc, .inl (tq.1, 1473, .inl c)), (xu, .inr (5, [.ref xus])), (xus, .inl (tq.1, 6, .inl uf270))] H := hP
    have hD : va_D AA [(xh, .inr (0, [.ref xhc, .int (nI st), .int (nI nx)])), (xhc, .inl (tq.1, 7365, .inl hc)), (xt, .inr (6, [.ref xtc, .int (nI tl)])), (xtc, .inl (tq.1, 100, .inl tx)), (xw, .inr (3, [.ref xwe, .int wl])), (xwe, .inl (tq.1, 60, .inl wf)), (x0, .inr (7, [.ref xl, .ref xh, .ref xt, .ref xp, .ref xo, .ref xu, .ref xw])), (xl, .inr (1, [.ref xlc])), (xlc, .inl (tq.1, 1473, .inl c)), (xu, .inr (5, [.ref xus])), (xus, .inl (tq.1, 6, .inl uf270))] := hD
    subst hw70
    refine r_top (show (etR s (nI e_) (nI 7)) = (bI (onP s e_ (hE s))) from (et_ (by omega) (by omega) (by omega))) ?_
    refine lv_istore (lv' := [(5, .int (bI (onP s e_ (hE s)))), (4, .int (nI e_)), (3, .int (nI (nE s))), (2, .int (nI z)), (0, .ref x0), (1, .int (nI y))]) hx hb dL_acts_73 hl (by decide) rfl (fun ls hl => ?_)
    refine lv_aload_n hx hb dL_acts_75 rfl (lv_at hl 4 rfl) ?_
    refine lv_iconst (v := (nI 3)) hx hb dL_acts_76 (by decide) ?_
    refine call_x (va_runV (As := [.int (nI 3)]) (rest := []) ⟨hx, hb, hml, hown, hts⟩ (kX7_count ln dg tq (x0 := x0) (xl := xl) (xh := xh) (xt := xt) (xp := xp) (xo := xo) (xu := xu) (xw := xw) (xlc := xlc) (c := c) (s := s) (hF := hF) (xhc := xhc) (st := st) (nx := nx) (hc := hc) (xtc := xtc) (tl := tl) (tx := tx) (x := (nI 3)) H.size) (cwV 1 hts gL_acts_X7_count rfl rfl rfl hdX7_count ⟨Nat.le_of_ble_eq_true rfl, Nat.le_of_ble_eq_true rfl⟩) (preVR hK hN hP [6, 7, 8, 0, 1, 2, 3] rfl 6 rfl rfl [.int (nI 3)]) rfl rfl hl.1 rfl (lv_room (Nat.le_of_ble_eq_true rfl)) dL_acts_77 ⟨Nat.le_refl _, Nat.le_refl _⟩) hP hS hA (fun H locs hP hS => ?_)
    refine r_top (show (ctR s st tl (nI 3)) = (nI (nB s)) from ct_ (by omega)) ?_
    refine lv_istore (lv' := [(6, .int (nI (nB s))), (5, .int (bI (onP s e_ (hE s)))), (4, .int (nI e_)), (3, .int (nI (nE s))), (2, .int (nI z)), (0, .ref x0), (1, .int (nI y))]) hx hb dL_acts_80 hl (by decide) rfl (fun ls hl => ?_)
    refine lv_aload_n hx hb dL_acts_82 rfl (lv_at hl 5 rfl) ?_
    refine lv_iload hx hb dL_acts_83 (lv_at hl 2 rfl) ?_
    refine call_w (wr := [(xt, .inr (6, [.ref xtc, .int (nI tl)])), (xtc, .inl (tq.1, 100, .inl tx)), (xu, .inr (5, [.ref xus])), (xus, .inl (tq.1, 6, .inl uf270))]) (va_runV (As := [.int (nI e_)]) (rest := []) ⟨hx, hb, hml, hown, hts⟩ (kX7_goBack ln dg tq (x0 := x0) (xl := xl) (xh := xh) (xt := xt) (xp := xp) (xo := xo) (xu := xu) (xw := xw) (xlc := xlc) (c := c) (s := s) (hF := hF) (xhc := xhc) (st := st) (nx := nx) (hc := hc) (hst := (by omega)) (hnx := (by omega)) (xwe := xwe) (wl := wl) (wf := wf) (x := (nI e_)) H.size) (cwV 1 hts gL_acts_X7_goBack rfl rfl rfl hdX7_goBack ⟨Nat.le_of_ble_eq_true rfl, Nat.le_of_ble_eq_true rfl⟩) (preVB hK hN hP hD [6, 7, 8, 0, 1, 4, 5] rfl rfl rfl 6 rfl rfl [.int (nI e_)]) rfl rfl hl.1 rfl (lv_room (Nat.le_of_ble_eq_true rfl)) dL_acts_85 ⟨Nat.le_refl _, Nat.le_refl _⟩) hP hD hS hA [6, 7, 8, 0, 1, 4, 5] [2, 3, 9, 10] rfl rfl (by decide) (by decide) (fun r85 u85 H locs hw85 hP hD hS => ?_)
    obtain ⟨cw85, hc285, st285, nx285, wl285, wf285⟩ := u85
    have hP : va_P dg vwCl [(xt, .inr (6, [.ref xtc, .int (nI tl)])), (xtc, .inl (tq.1, 100, .inl tx)), (xu, .inr (5, [.ref xus])), (xus, .inl (tq.1, 6, .inl uf270)), (x0, .inr (7, [.ref xl, .ref xh, .ref xt, .ref xp, .ref xo, .ref xu, .ref xw])), (xl, .inr (1, [.ref xlc])), (xlc, .inl (tq.1, 1473, .inl cw85)), (xh, .inr (0, [.ref xhc, .int (nI st285), .int (nI nx285)])), (xhc, .inl (tq.1, 7365, .inl hc285)), (xw, .inr (3, [.ref xwe, .int wl285])), (xwe, .inl (tq.1, 60, .inl wf285))] H := hP
    have hD : va_D AA [(xt, .inr (6, [.ref xtc, .int (nI tl)])), (xtc, .inl (tq.1, 100, .inl tx)), (xu, .inr (5, [.ref xus])), (xus, .inl (tq.1, 6, .inl uf270)), (x0, .inr (7, [.ref xl, .ref xh, .ref xt, .ref xp, .ref xo, .ref xu, .ref xw])), (xl, .inr (1, [.ref xlc])), (xlc, .inl (tq.1, 1473, .inl cw85)), (xh, .inr (0, [.ref xhc, .int (nI st285), .int (nI nx285)])), (xhc, .inl (tq.1, 7365, .inl hc285)), (xw, .inr (3, [.ref xwe, .int wl285])), (xwe, .inl (tq.1, 60, .inl wf285))] := hD
    obtain ⟨hr85, hw85⟩ := hw85
    subst hr85
    obtain ⟨tv_, htv_⟩ : ∃ x : Int32, x = gbR s (nI e_) := ⟨_, rfl⟩
    obtain ⟨s1, hL1, hKS, hne1, hof, hon⟩ := A_gb hL he_ htv_ hw85
    obtain ⟨hF1, hX1, hst1, hnx1⟩ := id hL1
    obtain ⟨hR1, hW1, -, -⟩ := id hF1
    have hn601 := hW1.n60
    have hn11 := hW1.n1
    have hb101 := hW1.b10
    have hs81 := hW1.s8
    have hhn1 := hW1.hn
    refine r_top (show (gbR s (nI e_)) = tv_ from htv_.symm) ?_
    refine lv_istore (lv' := [(7, .int tv_), (6, .int (nI (nB s))), (5, .int (bI (onP s e_ (hE s)))), (4, .int (nI e_)), (3, .int (nI (nE s))), (2, .int (nI z)), (0, .ref x0), (1, .int (nI y))]) hx hb dL_acts_88 hl (by decide) rfl (fun ls hl => ?_)
    refine lv_iload hx hb dL_acts_90 (lv_at hl 2 rfl) ?_
    refine r_if_ne_b (tgt := 110) hx hb dL_acts_92 (by decide) (fun c92 => ?_) (fun c92 => ?_)
    · skip
      obtain ⟨q1, q2⟩ := hon c92
      refine lv_iload hx hb dL_acts_110 (lv_at hl 0 rfl) ?_
      refine lv_ldc hx hb hown k65 dL_acts_112 ?_
      refine r_icmp_ne (tgt := 132) hx hb rfl (by decide : ((-100003) : Int32).toInt = (-100003)) dL_acts_114 (by decide) (fun c114 => ?_) (fun c114 => ?_)
      · skip
        obtain ⟨q3, q4⟩ := q2 c114
        refine lv_iload hx hb dL_acts_132 (lv_at hl 0 rfl) ?_
        refine lv_iload hx hb dL_acts_134 (lv_at hl 1 rfl) ?_
        refine r_icmp_ne (tgt := 153) hx hb rfl (nI_tI (by omega)) dL_acts_136 (by decide) (fun c136 => False.elim (by omega)) (fun c136 => ?_)
        refine lv_aload_n hx hb dL_acts_139 rfl (lv_at hl 6 rfl) ?_
        refine lv_iconst (v := (nI 1)) hx hb dL_acts_140 (by decide) ?_
        refine call_x (va_runV (As := [.int (nI 1)]) (rest := []) ⟨hx, hb, hml, hown, hts⟩ (kX7_count ln dg tq (x0 := x0) (xl := xl) (xh := xh) (xt := xt) (xp := xp) (xo := xo) (xu := xu) (xw := xw) (xlc := xlc) (c := cw85) (s := s1) (hF := hF1) (xhc := xhc) (st := st285) (nx := nx285) (hc := hc285) (xtc := xtc) (tl := tl) (tx := tx) (x := (nI 1)) H.size) (cwV 1 hts gL_acts_X7_count rfl rfl rfl hdX7_count ⟨Nat.le_of_ble_eq_true rfl, Nat.le_of_ble_eq_true rfl⟩) (preVR hK hN hP [4, 5, 6, 7, 8, 0, 1] rfl 4 rfl rfl [.int (nI 1)]) rfl rfl hl.1 rfl (lv_room (Nat.le_of_ble_eq_true rfl)) dL_acts_141 ⟨Nat.le_refl _, Nat.le_refl _⟩) hP hS hA (fun H locs hP hS => ?_)
        refine r_top (show (ctR s1 st285 tl (nI 1)) = (nI (hE s1)) from ct_ (by omega)) ?_
        refine lv_iload hx hb dL_acts_144 (lv_at hl 3 rfl) ?_
        refine r_icmp_ne (tgt := 153) hx hb (nI_tI (by omega)) (nI_tI (by omega)) dL_acts_146 (by decide) (fun c146 => False.elim (by omega)) (fun c146 => ?_)
        refine lv_iconst (v := (nI 1)) hx hb dL_acts_149 (by decide) ?_
        refine lv_goto (tgt := 154) hx hb dL_acts_150 (by decide) ?_
        exact hret (nI 1) (cw85, hc285, st285, nx285, uf270, wl285, wf285) H locs _ ls (show (nI 1) = (nI 1) ∧ (∃ s2, LX s2 cw85 st285 nx285) from (⟨rfl, s1, hL1⟩)) rfl (hP.sub [4, 5, 6, 7, 8, 0, 1, 2, 3, 9, 10] rfl) (hD.sub [4, 5, 6, 7, 8, 0, 1, 2, 3, 9, 10] (by decide) rfl) hS dL_acts_154
      · skip
        refine lv_iload hx hb dL_acts_117 (lv_at hl 1 rfl) ?_
        refine lv_bipush (v := (nI 10)) hx hb dL_acts_119 (by decide) ?_
        refine r_icmp_ne (tgt := 128) hx hb (nI_tI (by omega)) (nI_tI (by omega)) dL_acts_121 (by decide) (fun c121 => False.elim (by have q := q1 c114; omega)) (fun c121 => ?_)
        refine lv_iconst (v := (nI 1)) hx hb dL_acts_124 (by decide) ?_
        refine lv_goto (tgt := 154) hx hb dL_acts_125 (by decide) ?_
        exact hret (nI 1) (cw85, hc285, st285, nx285, uf270, wl285, wf285) H locs _ ls (show (nI 1) = (nI 1) ∧ (∃ s2, LX s2 cw85 st285 nx285) from (⟨rfl, s1, hL1⟩)) rfl (hP.sub [4, 5, 6, 7, 8, 0, 1, 2, 3, 9, 10] rfl) (hD.sub [4, 5, 6, 7, 8, 0, 1, 2, 3, 9, 10] (by decide) rfl) hS dL_acts_154
    · skip
      have q := hof c92
      refine lv_iload hx hb dL_acts_95 (lv_at hl 0 rfl) ?_
      refine lv_ldc hx hb hown k64 dL_acts_97 ?_
      refine r_icmp_ne (tgt := 106) hx hb rfl (by decide : ((-100002) : Int32).toInt = (-100002)) dL_acts_99 (by decide) (fun c99 => False.elim (by omega)) (fun c99 => ?_)
      refine lv_iconst (v := (nI 1)) hx hb dL_acts_102 (by decide) ?_
      refine lv_goto (tgt := 154) hx hb dL_acts_103 (by decide) ?_
      exact hret (nI 1) (cw85, hc285, st285, nx285, uf270, wl285, wf285) H locs _ ls (show (nI 1) = (nI 1) ∧ (∃ s2, LX s2 cw85 st285 nx285) from (⟨rfl, s1, hL1⟩)) rfl (hP.sub [4, 5, 6, 7, 8, 0, 1, 2, 3, 9, 10] rfl) (hD.sub [4, 5, 6, 7, 8, 0, 1, 2, 3, 9, 10] (by decide) rfl) hS dL_acts_154
  · skip
    refine lv_tableIn (off := 140) (tgt := 155) hx hb dL_acts_15 (by decide) (by decide) rfl (by decide) ?_
    refine lv_aload_n hx hb dL_acts_155 rfl (lv_at hl 2 rfl) ?_
    refine lv_iconst (v := (nI 3)) hx hb dL_acts_156 (by decide) ?_
    refine call_x (va_runV (As := [.int (nI 3)]) (rest := []) ⟨hx, hb, hml, hown, hts⟩ (kX7_count ln dg tq (x0 := x0) (xl := xl) (xh := xh) (xt := xt) (xp := xp) (xo := xo) (xu := xu) (xw := xw) (xlc := xlc) (c := c) (s := s) (hF := hF) (xhc := xhc) (st := st) (nx := nx) (hc := hc) (xtc := xtc) (tl := tl) (tx := tx) (x := (nI 3)) H.size) (cwV 1 hts gL_acts_X7_count rfl rfl rfl hdX7_count ⟨Nat.le_of_ble_eq_true rfl, Nat.le_of_ble_eq_true rfl⟩) (preVR hK hN hP [0, 1, 2, 3, 4, 5, 6] rfl 0 rfl rfl [.int (nI 3)]) rfl rfl hl.1 rfl (lv_room (Nat.le_of_ble_eq_true rfl)) dL_acts_157 ⟨Nat.le_refl _, Nat.le_refl _⟩) hP hS hA (fun H locs hP hS => ?_)
    refine r_top (show (ctR s st tl (nI 3)) = (nI (nB s)) from ct_ (by omega)) ?_
    refine r_if_eq (tgt := 180) hx hb (nI_tI (by omega)) dL_acts_160 (by decide) (fun c160 => ?_) (fun c160 => ?_)
    · skip
      refine lv_iconst (v := (nI 1)) hx hb dL_acts_180 (by decide) ?_
      refine lv_goto (tgt := 185) hx hb dL_acts_181 (by decide) ?_
      exact hret (nI 1) (c, hc, st, nx, uf, wl, wf) H locs _ ls (show (nI 1) = (nI 1) ∧ (∃ s2, LX s2 c st nx) from (⟨rfl, s, hL⟩)) rfl (hP.sub [0, 1, 2, 3, 4, 5, 6, 7, 8, 9, 10] rfl) (hD.sub [0, 1, 2, 3, 4, 5, 6, 7, 8, 9, 10] (by decide) rfl) hS dL_acts_185
    · skip
      obtain ⟨b_, hb_, hbz⟩ : ∃ b, b < nB s ∧ z % nB s = b := ⟨_, Nat.mod_lt _ (by omega), rfl⟩
      refine lv_aload_n hx hb dL_acts_163 rfl (lv_at hl 2 rfl) ?_
      refine lv_iload_n hx hb dL_acts_164 rfl (lv_at hl 1 rfl) ?_
      refine lv_aload_n hx hb dL_acts_165 rfl (lv_at hl 2 rfl) ?_
      refine lv_iconst (v := (nI 3)) hx hb dL_acts_166 (by decide) ?_
      refine call_x (va_runV (As := [.int (nI 3)]) (rest := [.int (nI z), .ref x0]) ⟨hx, hb, hml, hown, hts⟩ (kX7_count ln dg tq (x0 := x0) (xl := xl) (xh := xh) (xt := xt) (xp := xp) (xo := xo) (xu := xu) (xw := xw) (xlc := xlc) (c := c) (s := s) (hF := hF) (xhc := xhc) (st := st) (nx := nx) (hc := hc) (xtc := xtc) (tl := tl) (tx := tx) (x := (nI 3)) H.size) (cwV 1 hts gL_acts_X7_count rfl rfl rfl hdX7_count ⟨Nat.le_of_ble_eq_true rfl, Nat.le_of_ble_eq_true rfl⟩) (preVR hK hN hP [0, 1, 2, 3, 4, 5, 6] rfl 0 rfl rfl [.int (nI 3)]) rfl rfl hl.1 rfl (lv_room (Nat.le_of_ble_eq_true rfl)) dL_acts_167 ⟨Nat.le_refl _, Nat.le_refl _⟩) hP hS hA (fun H locs hP hS => ?_)
      refine r_top (show (ctR s st tl (nI 3)) = (nI (nB s)) from ct_ (by omega)) ?_
      refine r_irem_n hx hb (by omega) (by omega) (by omega) dL_acts_170 ?_
      refine r_top (show (nI (z % (nB s))) = (nI b_) from congrArg nI hbz) ?_
      refine lv_iconst (v := (nI 1)) hx hb dL_acts_171 (by decide) ?_
      refine call_w (wr := [(xt, .inr (6, [.ref xtc, .int (nI tl)])), (xtc, .inl (tq.1, 100, .inl tx))]) (va_runV (As := [.int (nI b_), .int (nI 1)]) (rest := []) ⟨hx, hb, hml, hown, hts⟩ (kX7_adopt ln dg tq (x0 := x0) (xl := xl) (xh := xh) (xt := xt) (xp := xp) (xo := xo) (xu := xu) (xw := xw) (xlc := xlc) (c := c) (s := s) (hF := hF) (xhc := xhc) (st := st) (nx := nx) (hc := hc) (hst := (by omega)) (hnx := (by omega)) (xus := xus) (uf := uf) (xwe := xwe) (wl := wl) (wf := wf) (x := (nI b_)) (how := (nI 1)) H.size) (cwV 2 hts gL_acts_X7_adopt rfl rfl rfl hdX7_adopt ⟨Nat.le_of_ble_eq_true rfl, Nat.le_of_ble_eq_true rfl⟩) (preVB hK hN hP hD [0, 1, 2, 3, 4, 7, 8, 9, 10] rfl rfl rfl 0 rfl rfl [.int (nI b_), .int (nI 1)]) rfl rfl hl.1 rfl (lv_room (Nat.le_of_ble_eq_true rfl)) dL_acts_172 ⟨Nat.le_refl _, Nat.le_refl _⟩) hP hD hS hA [0, 1, 2, 3, 4, 7, 8, 9, 10] [5, 6] rfl rfl (by decide) (by decide) (fun r172 u172 H locs hw172 hP hD hS => ?_)
      obtain ⟨cw172, hc2172, st2172, nx2172, uf2172, wl2172, wf2172⟩ := u172
      have hP : va_P dg vwCl [(xt, .inr (6, [.ref xtc, .int (nI tl)])), (xtc, .inl (tq.1, 100, .inl tx)), (x0, .inr (7, [.ref xl, .ref xh, .ref xt, .ref xp, .ref xo, .ref xu, .ref xw])), (xl, .inr (1, [.ref xlc])), (xlc, .inl (tq.1, 1473, .inl cw172)), (xh, .inr (0, [.ref xhc, .int (nI st2172), .int (nI nx2172)])), (xhc, .inl (tq.1, 7365, .inl hc2172)), (xu, .inr (5, [.ref xus])), (xus, .inl (tq.1, 6, .inl uf2172)), (xw, .inr (3, [.ref xwe, .int wl2172])), (xwe, .inl (tq.1, 60, .inl wf2172))] H := hP
      have hD : va_D AA [(xt, .inr (6, [.ref xtc, .int (nI tl)])), (xtc, .inl (tq.1, 100, .inl tx)), (x0, .inr (7, [.ref xl, .ref xh, .ref xt, .ref xp, .ref xo, .ref xu, .ref xw])), (xl, .inr (1, [.ref xlc])), (xlc, .inl (tq.1, 1473, .inl cw172)), (xh, .inr (0, [.ref xhc, .int (nI st2172), .int (nI nx2172)])), (xhc, .inl (tq.1, 7365, .inl hc2172)), (xu, .inr (5, [.ref xus])), (xus, .inl (tq.1, 6, .inl uf2172)), (xw, .inr (3, [.ref xwe, .int wl2172])), (xwe, .inl (tq.1, 60, .inl wf2172))] := hD
      obtain ⟨hr172, hw172⟩ := hw172
      subst hr172
      obtain ⟨tv_, htv_⟩ : ∃ x : Int32, x = adR s (nI b_) (nI 1) := ⟨_, rfl⟩
      obtain ⟨s1, hL1, hne1⟩ := A_ad hL hb_ htv_ hw172
      obtain ⟨hF1, hX1, hst1, hnx1⟩ := id hL1
      obtain ⟨hR1, hW1, -, -⟩ := id hF1
      have hn601 := hW1.n60
      have hn11 := hW1.n1
      have hb101 := hW1.b10
      have hs81 := hW1.s8
      have hhn1 := hW1.hn
      refine r_top (show (adR s (nI b_) (nI 1)) = tv_ from htv_.symm) ?_
      refine lv_ldc hx hb hown k69 dL_acts_175 ?_
      refine r_icmp_eq (tgt := 184) hx hb rfl (by decide : ((-100001) : Int32).toInt = (-100001)) dL_acts_177 (by decide) (fun c177 => False.elim (by omega)) (fun c177 => ?_)
      refine lv_iconst (v := (nI 1)) hx hb dL_acts_180 (by decide) ?_
      refine lv_goto (tgt := 185) hx hb dL_acts_181 (by decide) ?_
      exact hret (nI 1) (cw172, hc2172, st2172, nx2172, uf2172, wl2172, wf2172) H locs _ ls (show (nI 1) = (nI 1) ∧ (∃ s2, LX s2 cw172 st2172 nx2172) from (⟨rfl, s1, hL1⟩)) rfl (hP.sub [2, 3, 4, 5, 6, 0, 1, 7, 8, 9, 10] rfl) (hD.sub [2, 3, 4, 5, 6, 0, 1, 7, 8, 9, 10] (by decide) rfl) hS dL_acts_185
  · skip
    refine lv_tableIn (off := 171) (tgt := 186) hx hb dL_acts_15 (by decide) (by decide) rfl (by decide) ?_
    refine lv_aload_n hx hb dL_acts_186 rfl (lv_at hl 2 rfl) ?_
    refine lv_iconst (v := (nI 3)) hx hb dL_acts_187 (by decide) ?_
    refine call_x (va_runV (As := [.int (nI 3)]) (rest := []) ⟨hx, hb, hml, hown, hts⟩ (kX7_count ln dg tq (x0 := x0) (xl := xl) (xh := xh) (xt := xt) (xp := xp) (xo := xo) (xu := xu) (xw := xw) (xlc := xlc) (c := c) (s := s) (hF := hF) (xhc := xhc) (st := st) (nx := nx) (hc := hc) (xtc := xtc) (tl := tl) (tx := tx) (x := (nI 3)) H.size) (cwV 1 hts gL_acts_X7_count rfl rfl rfl hdX7_count ⟨Nat.le_of_ble_eq_true rfl, Nat.le_of_ble_eq_true rfl⟩) (preVR hK hN hP [0, 1, 2, 3, 4, 5, 6] rfl 0 rfl rfl [.int (nI 3)]) rfl rfl hl.1 rfl (lv_room (Nat.le_of_ble_eq_true rfl)) dL_acts_188 ⟨Nat.le_refl _, Nat.le_refl _⟩) hP hS hA (fun H locs hP hS => ?_)
    refine r_top (show (ctR s st tl (nI 3)) = (nI (nB s)) from ct_ (by omega)) ?_
    refine r_if_ne (tgt := 196) hx hb (nI_tI (by omega)) dL_acts_191 (by decide) (fun c191 => ?_) (fun c191 => ?_)
    · skip
      obtain ⟨b_, hb_, hbz⟩ : ∃ b, b < nB s ∧ z % nB s = b := ⟨_, Nat.mod_lt _ (by omega), rfl⟩
      refine lv_iload_n hx hb dL_acts_196 rfl (lv_at hl 1 rfl) ?_
      refine lv_aload_n hx hb dL_acts_197 rfl (lv_at hl 2 rfl) ?_
      refine lv_iconst (v := (nI 3)) hx hb dL_acts_198 (by decide) ?_
      refine call_x (va_runV (As := [.int (nI 3)]) (rest := [.int (nI z)]) ⟨hx, hb, hml, hown, hts⟩ (kX7_count ln dg tq (x0 := x0) (xl := xl) (xh := xh) (xt := xt) (xp := xp) (xo := xo) (xu := xu) (xw := xw) (xlc := xlc) (c := c) (s := s) (hF := hF) (xhc := xhc) (st := st) (nx := nx) (hc := hc) (xtc := xtc) (tl := tl) (tx := tx) (x := (nI 3)) H.size) (cwV 1 hts gL_acts_X7_count rfl rfl rfl hdX7_count ⟨Nat.le_of_ble_eq_true rfl, Nat.le_of_ble_eq_true rfl⟩) (preVR hK hN hP [0, 1, 2, 3, 4, 5, 6] rfl 0 rfl rfl [.int (nI 3)]) rfl rfl hl.1 rfl (lv_room (Nat.le_of_ble_eq_true rfl)) dL_acts_199 ⟨Nat.le_refl _, Nat.le_refl _⟩) hP hS hA (fun H locs hP hS => ?_)
      refine r_top (show (ctR s st tl (nI 3)) = (nI (nB s)) from ct_ (by omega)) ?_
      refine r_irem_n hx hb (by omega) (by omega) (by omega) dL_acts_202 ?_
      refine r_top (show (nI (z % (nB s))) = (nI b_) from congrArg nI hbz) ?_
      refine lv_istore (lv' := [(8, .int (nI b_)), (3, .int (nI (nE s))), (2, .int (nI z)), (0, .ref x0), (1, .int (nI y))]) hx hb dL_acts_203 hl (by decide) rfl (fun ls hl => ?_)
      by_cases hld : loudB s b_ = true
      · skip
        refine lv_aload_n hx hb dL_acts_205 rfl (lv_at hl 3 rfl) ?_
        refine lv_iload hx hb dL_acts_206 (lv_at hl 0 rfl) ?_
        refine lv_iconst (v := (nI 4)) hx hb dL_acts_208 (by decide) ?_
        refine call_x (va_runV (As := [.int (nI b_), .int (nI 4)]) (rest := []) ⟨hx, hb, hml, hown, hts⟩ (kX7_branch ln dg tq (x0 := x0) (xl := xl) (xh := xh) (xt := xt) (xp := xp) (xo := xo) (xu := xu) (xw := xw) (xlc := xlc) (c := c) (s := s) (hF := hF) (x := (nI b_)) (w := (nI 4)) H.size) (cwV 2 hts gL_acts_X7_branch rfl rfl rfl hdX7_branch ⟨Nat.le_of_ble_eq_true rfl, Nat.le_of_ble_eq_true rfl⟩) (preVR hK hN hP [0, 1, 2] rfl 0 rfl rfl [.int (nI b_), .int (nI 4)]) rfl rfl hl.1 rfl (lv_room (Nat.le_of_ble_eq_true rfl)) dL_acts_209 ⟨Nat.le_refl _, Nat.le_refl _⟩) hP hS hA (fun H locs hP hS => ?_)
        refine r_top (show (brR s (nI b_) (nI 4)) = (brN s b_ 4) from (br_ (by omega) (by omega) (by omega))) ?_
        refine r_top (show (brN s b_ 4) = (nI 1) from brN_l hld) ?_
        refine lv_istore (lv' := [(9, .int (nI 1)), (8, .int (nI b_)), (3, .int (nI (nE s))), (2, .int (nI z)), (0, .ref x0), (1, .int (nI y))]) hx hb dL_acts_212 hl (by decide) rfl (fun ls hl => ?_)
        refine lv_aload_n hx hb dL_acts_214 rfl (lv_at hl 4 rfl) ?_
        refine lv_iload hx hb dL_acts_215 (lv_at hl 1 rfl) ?_
        refine call_w (wr := [(xt, .inr (6, [.ref xtc, .int (nI tl)])), (xtc, .inl (tq.1, 100, .inl tx)), (xu, .inr (5, [.ref xus])), (xus, .inl (tq.1, 6, .inl uf)), (xw, .inr (3, [.ref xwe, .int wl])), (xwe, .inl (tq.1, 60, .inl wf))]) (va_runV (As := [.int (nI b_)]) (rest := []) ⟨hx, hb, hml, hown, hts⟩ (kX7_dismiss ln dg tq (x0 := x0) (xl := xl) (xh := xh) (xt := xt) (xp := xp) (xo := xo) (xu := xu) (xw := xw) (xlc := xlc) (c := c) (s := s) (hF := hF) (xhc := xhc) (st := st) (nx := nx) (hc := hc) (hst := (by omega)) (hnx := (by omega)) (x := (nI b_)) H.size) (cwV 1 hts gL_acts_X7_dismiss rfl rfl rfl hdX7_dismiss ⟨Nat.le_of_ble_eq_true rfl, Nat.le_of_ble_eq_true rfl⟩) (preVB hK hN hP hD [0, 1, 2, 3, 4] rfl rfl rfl 0 rfl rfl [.int (nI b_)]) rfl rfl hl.1 rfl (lv_room (Nat.le_of_ble_eq_true rfl)) dL_acts_217 ⟨Nat.le_refl _, Nat.le_refl _⟩) hP hD hS hA [0, 1, 2, 3, 4] [5, 6, 7, 8, 9, 10] rfl rfl (by decide) (by decide) (fun r217 u217 H locs hw217 hP hD hS => ?_)
        obtain ⟨cw217, hc2217, st2217, nx2217⟩ := u217
        have hP : va_P dg vwCl [(xt, .inr (6, [.ref xtc, .int (nI tl)])), (xtc, .inl (tq.1, 100, .inl tx)), (xu, .inr (5, [.ref xus])), (xus, .inl (tq.1, 6, .inl uf)), (xw, .inr (3, [.ref xwe, .int wl])), (xwe, .inl (tq.1, 60, .inl wf)), (x0, .inr (7, [.ref xl, .ref xh, .ref xt, .ref xp, .ref xo, .ref xu, .ref xw])), (xl, .inr (1, [.ref xlc])), (xlc, .inl (tq.1, 1473, .inl cw217)), (xh, .inr (0, [.ref xhc, .int (nI st2217), .int (nI nx2217)])), (xhc, .inl (tq.1, 7365, .inl hc2217))] H := hP
        have hD : va_D AA [(xt, .inr (6, [.ref xtc, .int (nI tl)])), (xtc, .inl (tq.1, 100, .inl tx)), (xu, .inr (5, [.ref xus])), (xus, .inl (tq.1, 6, .inl uf)), (xw, .inr (3, [.ref xwe, .int wl])), (xwe, .inl (tq.1, 60, .inl wf)), (x0, .inr (7, [.ref xl, .ref xh, .ref xt, .ref xp, .ref xo, .ref xu, .ref xw])), (xl, .inr (1, [.ref xlc])), (xlc, .inl (tq.1, 1473, .inl cw217)), (xh, .inr (0, [.ref xhc, .int (nI st2217), .int (nI nx2217)])), (xhc, .inl (tq.1, 7365, .inl hc2217))] := hD
        obtain ⟨hr217, hw217⟩ := hw217
        subst hr217
        obtain ⟨tv_, htv_⟩ : ∃ x : Int32, x = dsR s (nI b_) := ⟨_, rfl⟩
        obtain ⟨s1, hL1, hB1, hneg, hpos⟩ := A_ds hL hb_ htv_ hw217
        obtain ⟨hF1, hX1, hst1, hnx1⟩ := id hL1
        obtain ⟨hR1, hW1, -, -⟩ := id hF1
        have hn601 := hW1.n60
        have hn11 := hW1.n1
        have hb101 := hW1.b10
        have hs81 := hW1.s8
        have hhn1 := hW1.hn
        have hlf := hW.lfl (b := b_) (by omega)
        refine r_top (show (dsR s (nI b_)) = tv_ from htv_.symm) ?_
        refine lv_istore (lv' := [(10, .int tv_), (9, .int (nI 1)), (8, .int (nI b_)), (3, .int (nI (nE s))), (2, .int (nI z)), (0, .ref x0), (1, .int (nI y))]) hx hb dL_acts_220 hl (by decide) rfl (fun ls hl => ?_)
        refine lv_iload hx hb dL_acts_222 (lv_at hl 0 rfl) ?_
        refine r_if_ge (tgt := 253) hx hb rfl dL_acts_224 (by decide) (fun c224 => ?_) (fun c224 => ?_)
        · skip
          obtain ⟨q1, q2, q3, q4, q5, q6⟩ := hpos c224
          refine lv_iload hx hb dL_acts_253 (lv_at hl 0 rfl) ?_
          refine lv_iload_n hx hb dL_acts_255 rfl (lv_at hl 3 rfl) ?_
          refine r_icmp_ne (tgt := 300) hx hb rfl (nI_tI (by omega)) dL_acts_256 (by decide) (fun c256 => False.elim (by omega)) (fun c256 => ?_)
          refine lv_aload_n hx hb dL_acts_259 rfl (lv_at hl 5 rfl) ?_
          refine lv_iload_n hx hb dL_acts_260 rfl (lv_at hl 3 rfl) ?_
          refine lv_iconst (v := (nI 0)) hx hb dL_acts_261 (by decide) ?_
          refine call_w (wr := [(xt, .inr (6, [.ref xtc, .int (nI tl)])), (xtc, .inl (tq.1, 100, .inl tx)), (xw, .inr (3, [.ref xwe, .int wl])), (xwe, .inl (tq.1, 60, .inl wf)), (xh, .inr (0, [.ref xhc, .int (nI st2217), .int (nI nx2217)])), (xhc, .inl (tq.1, 7365, .inl hc2217))]) (va_runV (As := [.int (nI (nE s)), .int (nI 0)]) (rest := []) ⟨hx, hb, hml, hown, hts⟩ (kX7_entry ln dg tq (x0 := x0) (xl := xl) (xh := xh) (xt := xt) (xp := xp) (xo := xo) (xu := xu) (xw := xw) (xlc := xlc) (c := cw217) (s := s1) (hF := hF1) (xus := xus) (uf := uf) (x := (nI (nE s))) (w := (nI 0)) H.size) (cwV 2 hts gL_acts_X7_entry rfl rfl rfl hdX7_entry ⟨Nat.le_of_ble_eq_true rfl, Nat.le_of_ble_eq_true rfl⟩) (preVB hK hN hP hD [6, 7, 8, 2, 3] rfl rfl rfl 6 rfl rfl [.int (nI (nE s)), .int (nI 0)]) rfl rfl hl.1 rfl (lv_room (Nat.le_of_ble_eq_true rfl)) dL_acts_262 ⟨Nat.le_refl _, Nat.le_refl _⟩) hP hD hS hA [6, 7, 8, 2, 3] [0, 1, 4, 5, 9, 10] rfl rfl (by decide) (by decide) (fun r262 u262 H locs hw262 hP hD hS => ?_)
          obtain ⟨uf2262, rfl⟩ : ∃ z, z = u262 := ⟨_, rfl⟩
          have hP : va_P dg vwCl [(xt, .inr (6, [.ref xtc, .int (nI tl)])), (xtc, .inl (tq.1, 100, .inl tx)), (xw, .inr (3, [.ref xwe, .int wl])), (xwe, .inl (tq.1, 60, .inl wf)), (xh, .inr (0, [.ref xhc, .int (nI st2217), .int (nI nx2217)])), (xhc, .inl (tq.1, 7365, .inl hc2217)), (x0, .inr (7, [.ref xl, .ref xh, .ref xt, .ref xp, .ref xo, .ref xu, .ref xw])), (xl, .inr (1, [.ref xlc])), (xlc, .inl (tq.1, 1473, .inl cw217)), (xu, .inr (5, [.ref xus])), (xus, .inl (tq.1, 6, .inl uf2262))] H := hP
          have hD : va_D AA [(xt, .inr (6, [.ref xtc, .int (nI tl)])), (xtc, .inl (tq.1, 100, .inl tx)), (xw, .inr (3, [.ref xwe, .int wl])), (xwe, .inl (tq.1, 60, .inl wf)), (xh, .inr (0, [.ref xhc, .int (nI st2217), .int (nI nx2217)])), (xhc, .inl (tq.1, 7365, .inl hc2217)), (x0, .inr (7, [.ref xl, .ref xh, .ref xt, .ref xp, .ref xo, .ref xu, .ref xw])), (xl, .inr (1, [.ref xlc])), (xlc, .inl (tq.1, 1473, .inl cw217)), (xu, .inr (5, [.ref xus])), (xus, .inl (tq.1, 6, .inl uf2262))] := hD
          subst hw262
          refine r_top (show (etR s1 (nI (nE s)) (nI 0)) = (me s1 (nE s) 1) from (et_ (by omega) (by omega) (by omega))) ?_
          refine r_top (show (me s1 (nE s) 1) = (nI 4) from q3) ?_
          refine lv_iconst (v := (nI 4)) hx hb dL_acts_265 (by decide) ?_
          refine r_icmp_ne (tgt := 300) hx hb (nI_tI (by omega)) (nI_tI (by omega)) dL_acts_266 (by decide) (fun c266 => False.elim (by omega)) (fun c266 => ?_)
          refine lv_aload_n hx hb dL_acts_269 rfl (lv_at hl 5 rfl) ?_
          refine lv_iload_n hx hb dL_acts_270 rfl (lv_at hl 3 rfl) ?_
          refine lv_iconst (v := (nI 3)) hx hb dL_acts_271 (by decide) ?_
          refine call_w (wr := [(xt, .inr (6, [.ref xtc, .int (nI tl)])), (xtc, .inl (tq.1, 100, .inl tx)), (xw, .inr (3, [.ref xwe, .int wl])), (xwe, .inl (tq.1, 60, .inl wf)), (xh, .inr (0, [.ref xhc, .int (nI st2217), .int (nI nx2217)])), (xhc, .inl (tq.1, 7365, .inl hc2217))]) (va_runV (As := [.int (nI (nE s)), .int (nI 3)]) (rest := []) ⟨hx, hb, hml, hown, hts⟩ (kX7_entry ln dg tq (x0 := x0) (xl := xl) (xh := xh) (xt := xt) (xp := xp) (xo := xo) (xu := xu) (xw := xw) (xlc := xlc) (c := cw217) (s := s1) (hF := hF1) (xus := xus) (uf := uf2262) (x := (nI (nE s))) (w := (nI 3)) H.size) (cwV 2 hts gL_acts_X7_entry rfl rfl rfl hdX7_entry ⟨Nat.le_of_ble_eq_true rfl, Nat.le_of_ble_eq_true rfl⟩) (preVB hK hN hP hD [6, 7, 8, 9, 10] rfl rfl rfl 6 rfl rfl [.int (nI (nE s)), .int (nI 3)]) rfl rfl hl.1 rfl (lv_room (Nat.le_of_ble_eq_true rfl)) dL_acts_272 ⟨Nat.le_refl _, Nat.le_refl _⟩) hP hD hS hA [6, 7, 8, 9, 10] [0, 1, 2, 3, 4, 5] rfl rfl (by decide) (by decide) (fun r272 u272 H locs hw272 hP hD hS => ?_)
          obtain ⟨uf2272, rfl⟩ : ∃ z, z = u272 := ⟨_, rfl⟩
          have hP : va_P dg vwCl [(xt, .inr (6, [.ref xtc, .int (nI tl)])), (xtc, .inl (tq.1, 100, .inl tx)), (xw, .inr (3, [.ref xwe, .int wl])), (xwe, .inl (tq.1, 60, .inl wf)), (xh, .inr (0, [.ref xhc, .int (nI st2217), .int (nI nx2217)])), (xhc, .inl (tq.1, 7365, .inl hc2217)), (x0, .inr (7, [.ref xl, .ref xh, .ref xt, .ref xp, .ref xo, .ref xu, .ref xw])), (xl, .inr (1, [.ref xlc])), (xlc, .inl (tq.1, 1473, .inl cw217)), (xu, .inr (5, [.ref xus])), (xus, .inl (tq.1, 6, .inl uf2272))] H := hP
          have hD : va_D AA [(xt, .inr (6, [.ref xtc, .int (nI tl)])), (xtc, .inl (tq.1, 100, .inl tx)), (xw, .inr (3, [.ref xwe, .int wl])), (xwe, .inl (tq.1, 60, .inl wf)), (xh, .inr (0, [.ref xhc, .int (nI st2217), .int (nI nx2217)])), (xhc, .inl (tq.1, 7365, .inl hc2217)), (x0, .inr (7, [.ref xl, .ref xh, .ref xt, .ref xp, .ref xo, .ref xu, .ref xw])), (xl, .inr (1, [.ref xlc])), (xlc, .inl (tq.1, 1473, .inl cw217)), (xu, .inr (5, [.ref xus])), (xus, .inl (tq.1, 6, .inl uf2272))] := hD
          subst hw272
          refine r_top (show (etR s1 (nI (nE s)) (nI 3)) = (me s1 (nE s) 4) from (et_ (by omega) (by omega) (by omega))) ?_
          refine r_top (show (me s1 (nE s) 4) = (nI (lf s b_)) from q4) ?_
          refine lv_aload_n hx hb dL_acts_275 rfl (lv_at hl 5 rfl) ?_
          refine lv_iload hx hb dL_acts_276 (lv_at hl 2 rfl) ?_
          refine lv_iconst (v := (nI 0)) hx hb dL_acts_278 (by decide) ?_
          refine call_x (va_runV (As := [.int (nI b_), .int (nI 0)]) (rest := [.int (nI (lf s b_))]) ⟨hx, hb, hml, hown, hts⟩ (kX7_branch ln dg tq (x0 := x0) (xl := xl) (xh := xh) (xt := xt) (xp := xp) (xo := xo) (xu := xu) (xw := xw) (xlc := xlc) (c := cw217) (s := s1) (hF := hF1) (x := (nI b_)) (w := (nI 0)) H.size) (cwV 2 hts gL_acts_X7_branch rfl rfl rfl hdX7_branch ⟨Nat.le_of_ble_eq_true rfl, Nat.le_of_ble_eq_true rfl⟩) (preVR hK hN hP [6, 7, 8] rfl 6 rfl rfl [.int (nI b_), .int (nI 0)]) rfl rfl hl.1 rfl (lv_room (Nat.le_of_ble_eq_true rfl)) dL_acts_279 ⟨Nat.le_refl _, Nat.le_refl _⟩) hP hS hA (fun H locs hP hS => ?_)
          refine r_top (show (brR s1 (nI b_) (nI 0)) = (nI (lf s1 b_)) from (br_ (by omega) (by omega) (by omega))) ?_
          refine r_top (show (nI (lf s1 b_)) = (nI (lf s b_)) from congrArg nI q5) ?_
          refine r_icmp_ne (tgt := 300) hx hb (nI_tI (by omega)) (nI_tI (by omega)) dL_acts_282 (by decide) (fun c282 => False.elim (by omega)) (fun c282 => ?_)
          refine lv_aload_n hx hb dL_acts_285 rfl (lv_at hl 5 rfl) ?_
          refine lv_iload hx hb dL_acts_286 (lv_at hl 2 rfl) ?_
          refine lv_iconst (v := (nI 4)) hx hb dL_acts_288 (by decide) ?_
          refine call_x (va_runV (As := [.int (nI b_), .int (nI 4)]) (rest := []) ⟨hx, hb, hml, hown, hts⟩ (kX7_branch ln dg tq (x0 := x0) (xl := xl) (xh := xh) (xt := xt) (xp := xp) (xo := xo) (xu := xu) (xw := xw) (xlc := xlc) (c := cw217) (s := s1) (hF := hF1) (x := (nI b_)) (w := (nI 4)) H.size) (cwV 2 hts gL_acts_X7_branch rfl rfl rfl hdX7_branch ⟨Nat.le_of_ble_eq_true rfl, Nat.le_of_ble_eq_true rfl⟩) (preVR hK hN hP [6, 7, 8] rfl 6 rfl rfl [.int (nI b_), .int (nI 4)]) rfl rfl hl.1 rfl (lv_room (Nat.le_of_ble_eq_true rfl)) dL_acts_289 ⟨Nat.le_refl _, Nat.le_refl _⟩) hP hS hA (fun H locs hP hS => ?_)
          refine r_top (show (brR s1 (nI b_) (nI 4)) = (brN s1 b_ 4) from (br_ (by omega) (by omega) (by omega))) ?_
          refine r_top (show (brN s1 b_ 4) = (nI 3) from brN_3 q6) ?_
          refine lv_iconst (v := (nI 3)) hx hb dL_acts_292 (by decide) ?_
          refine r_icmp_ne (tgt := 300) hx hb (nI_tI (by omega)) (nI_tI (by omega)) dL_acts_293 (by decide) (fun c293 => False.elim (by omega)) (fun c293 => ?_)
          refine lv_iconst (v := (nI 1)) hx hb dL_acts_296 (by decide) ?_
          refine lv_goto (tgt := 301) hx hb dL_acts_297 (by decide) ?_
          exact hret (nI 1) (cw217, hc2217, st2217, nx2217, uf2272, wl, wf) H locs _ ls (show (nI 1) = (nI 1) ∧ (∃ s2, LX s2 cw217 st2217 nx2217) from (⟨rfl, s1, hL1⟩)) rfl (hP.sub [6, 7, 8, 4, 5, 0, 1, 9, 10, 2, 3] rfl) (hD.sub [6, 7, 8, 4, 5, 0, 1, 9, 10, 2, 3] (by decide) rfl) hS dL_acts_301
        · skip
          obtain ⟨q1, q2⟩ := hneg c224
          refine lv_iload hx hb dL_acts_227 (lv_at hl 0 rfl) ?_
          refine lv_iload hx hb dL_acts_229 (lv_at hl 1 rfl) ?_
          refine lv_iconst (v := (nI 1)) hx hb dL_acts_231 (by decide) ?_
          refine r_icmp_le (tgt := 240) hx hb (nI_tI (by omega)) (nI_tI (by omega)) dL_acts_232 (by decide) (fun c232 => ?_) (fun c232 => False.elim (by omega))
          refine lv_ldc hx hb hown k65 dL_acts_240 ?_
          refine r_icmp_ne (tgt := 249) hx hb rfl (by decide : ((-100003) : Int32).toInt = (-100003)) dL_acts_242 (by decide) (fun c242 => False.elim (by have q := q2 (loud_t hld).1; omega)) (fun c242 => ?_)
          refine lv_iconst (v := (nI 1)) hx hb dL_acts_245 (by decide) ?_
          refine lv_goto (tgt := 301) hx hb dL_acts_246 (by decide) ?_
          exact hret (nI 1) (cw217, hc2217, st2217, nx2217, uf, wl, wf) H locs _ ls (show (nI 1) = (nI 1) ∧ (∃ s2, LX s2 cw217 st2217 nx2217) from (⟨rfl, s1, hL1⟩)) rfl (hP.sub [6, 7, 8, 9, 10, 0, 1, 2, 3, 4, 5] rfl) (hD.sub [6, 7, 8, 9, 10, 0, 1, 2, 3, 4, 5] (by decide) rfl) hS dL_acts_301
      · skip
        by_cases hwt : waitB s b_ = true
        · skip
          refine lv_aload_n hx hb dL_acts_205 rfl (lv_at hl 3 rfl) ?_
          refine lv_iload hx hb dL_acts_206 (lv_at hl 0 rfl) ?_
          refine lv_iconst (v := (nI 4)) hx hb dL_acts_208 (by decide) ?_
          refine call_x (va_runV (As := [.int (nI b_), .int (nI 4)]) (rest := []) ⟨hx, hb, hml, hown, hts⟩ (kX7_branch ln dg tq (x0 := x0) (xl := xl) (xh := xh) (xt := xt) (xp := xp) (xo := xo) (xu := xu) (xw := xw) (xlc := xlc) (c := c) (s := s) (hF := hF) (x := (nI b_)) (w := (nI 4)) H.size) (cwV 2 hts gL_acts_X7_branch rfl rfl rfl hdX7_branch ⟨Nat.le_of_ble_eq_true rfl, Nat.le_of_ble_eq_true rfl⟩) (preVR hK hN hP [0, 1, 2] rfl 0 rfl rfl [.int (nI b_), .int (nI 4)]) rfl rfl hl.1 rfl (lv_room (Nat.le_of_ble_eq_true rfl)) dL_acts_209 ⟨Nat.le_refl _, Nat.le_refl _⟩) hP hS hA (fun H locs hP hS => ?_)
          refine r_top (show (brR s (nI b_) (nI 4)) = (brN s b_ 4) from (br_ (by omega) (by omega) (by omega))) ?_
          refine r_top (show (brN s b_ 4) = (nI 0) from (brN_n hld).trans (wait_0 hwt)) ?_
          refine lv_istore (lv' := [(9, .int (nI 0)), (8, .int (nI b_)), (3, .int (nI (nE s))), (2, .int (nI z)), (0, .ref x0), (1, .int (nI y))]) hx hb dL_acts_212 hl (by decide) rfl (fun ls hl => ?_)
          refine lv_aload_n hx hb dL_acts_214 rfl (lv_at hl 4 rfl) ?_
          refine lv_iload hx hb dL_acts_215 (lv_at hl 1 rfl) ?_
          refine call_w (wr := [(xt, .inr (6, [.ref xtc, .int (nI tl)])), (xtc, .inl (tq.1, 100, .inl tx)), (xu, .inr (5, [.ref xus])), (xus, .inl (tq.1, 6, .inl uf)), (xw, .inr (3, [.ref xwe, .int wl])), (xwe, .inl (tq.1, 60, .inl wf))]) (va_runV (As := [.int (nI b_)]) (rest := []) ⟨hx, hb, hml, hown, hts⟩ (kX7_dismiss ln dg tq (x0 := x0) (xl := xl) (xh := xh) (xt := xt) (xp := xp) (xo := xo) (xu := xu) (xw := xw) (xlc := xlc) (c := c) (s := s) (hF := hF) (xhc := xhc) (st := st) (nx := nx) (hc := hc) (hst := (by omega)) (hnx := (by omega)) (x := (nI b_)) H.size) (cwV 1 hts gL_acts_X7_dismiss rfl rfl rfl hdX7_dismiss ⟨Nat.le_of_ble_eq_true rfl, Nat.le_of_ble_eq_true rfl⟩) (preVB hK hN hP hD [0, 1, 2, 3, 4] rfl rfl rfl 0 rfl rfl [.int (nI b_)]) rfl rfl hl.1 rfl (lv_room (Nat.le_of_ble_eq_true rfl)) dL_acts_217 ⟨Nat.le_refl _, Nat.le_refl _⟩) hP hD hS hA [0, 1, 2, 3, 4] [5, 6, 7, 8, 9, 10] rfl rfl (by decide) (by decide) (fun r217 u217 H locs hw217 hP hD hS => ?_)
          obtain ⟨cw217, hc2217, st2217, nx2217⟩ := u217
          have hP : va_P dg vwCl [(xt, .inr (6, [.ref xtc, .int (nI tl)])), (xtc, .inl (tq.1, 100, .inl tx)), (xu, .inr (5, [.ref xus])), (xus, .inl (tq.1, 6, .inl uf)), (xw, .inr (3, [.ref xwe, .int wl])), (xwe, .inl (tq.1, 60, .inl wf)), (x0, .inr (7, [.ref xl, .ref xh, .ref xt, .ref xp, .ref xo, .ref xu, .ref xw])), (xl, .inr (1, [.ref xlc])), (xlc, .inl (tq.1, 1473, .inl cw217)), (xh, .inr (0, [.ref xhc, .int (nI st2217), .int (nI nx2217)])), (xhc, .inl (tq.1, 7365, .inl hc2217))] H := hP
          have hD : va_D AA [(xt, .inr (6, [.ref xtc, .int (nI tl)])), (xtc, .inl (tq.1, 100, .inl tx)), (xu, .inr (5, [.ref xus])), (xus, .inl (tq.1, 6, .inl uf)), (xw, .inr (3, [.ref xwe, .int wl])), (xwe, .inl (tq.1, 60, .inl wf)), (x0, .inr (7, [.ref xl, .ref xh, .ref xt, .ref xp, .ref xo, .ref xu, .ref xw])), (xl, .inr (1, [.ref xlc])), (xlc, .inl (tq.1, 1473, .inl cw217)), (xh, .inr (0, [.ref xhc, .int (nI st2217), .int (nI nx2217)])), (xhc, .inl (tq.1, 7365, .inl hc2217))] := hD
          obtain ⟨hr217, hw217⟩ := hw217
          subst hr217
          obtain ⟨tv_, htv_⟩ : ∃ x : Int32, x = dsR s (nI b_) := ⟨_, rfl⟩
          obtain ⟨s1, hL1, hB1, hneg, hpos⟩ := A_ds hL hb_ htv_ hw217
          obtain ⟨hF1, hX1, hst1, hnx1⟩ := id hL1
          obtain ⟨hR1, hW1, -, -⟩ := id hF1
          have hn601 := hW1.n60
          have hn11 := hW1.n1
          have hb101 := hW1.b10
          have hs81 := hW1.s8
          have hhn1 := hW1.hn
          have hlf := hW.lfl (b := b_) (by omega)
          refine r_top (show (dsR s (nI b_)) = tv_ from htv_.symm) ?_
          refine lv_istore (lv' := [(10, .int tv_), (9, .int (nI 0)), (8, .int (nI b_)), (3, .int (nI (nE s))), (2, .int (nI z)), (0, .ref x0), (1, .int (nI y))]) hx hb dL_acts_220 hl (by decide) rfl (fun ls hl => ?_)
          refine lv_iload hx hb dL_acts_222 (lv_at hl 0 rfl) ?_
          refine r_if_ge (tgt := 253) hx hb rfl dL_acts_224 (by decide) (fun c224 => ?_) (fun c224 => ?_)
          · skip
            obtain ⟨q1, q2, q3, q4, q5, q6⟩ := hpos c224
            refine lv_iload hx hb dL_acts_253 (lv_at hl 0 rfl) ?_
            refine lv_iload_n hx hb dL_acts_255 rfl (lv_at hl 3 rfl) ?_
            refine r_icmp_ne (tgt := 300) hx hb rfl (nI_tI (by omega)) dL_acts_256 (by decide) (fun c256 => False.elim (by omega)) (fun c256 => ?_)
            refine lv_aload_n hx hb dL_acts_259 rfl (lv_at hl 5 rfl) ?_
            refine lv_iload_n hx hb dL_acts_260 rfl (lv_at hl 3 rfl) ?_
            refine lv_iconst (v := (nI 0)) hx hb dL_acts_261 (by decide) ?_
            refine call_w (wr := [(xt, .inr (6, [.ref xtc, .int (nI tl)])), (xtc, .inl (tq.1, 100, .inl tx)), (xw, .inr (3, [.ref xwe, .int wl])), (xwe, .inl (tq.1, 60, .inl wf)), (xh, .inr (0, [.ref xhc, .int (nI st2217), .int (nI nx2217)])), (xhc, .inl (tq.1, 7365, .inl hc2217))]) (va_runV (As := [.int (nI (nE s)), .int (nI 0)]) (rest := []) ⟨hx, hb, hml, hown, hts⟩ (kX7_entry ln dg tq (x0 := x0) (xl := xl) (xh := xh) (xt := xt) (xp := xp) (xo := xo) (xu := xu) (xw := xw) (xlc := xlc) (c := cw217) (s := s1) (hF := hF1) (xus := xus) (uf := uf) (x := (nI (nE s))) (w := (nI 0)) H.size) (cwV 2 hts gL_acts_X7_entry rfl rfl rfl hdX7_entry ⟨Nat.le_of_ble_eq_true rfl, Nat.le_of_ble_eq_true rfl⟩) (preVB hK hN hP hD [6, 7, 8, 2, 3] rfl rfl rfl 6 rfl rfl [.int (nI (nE s)), .int (nI 0)]) rfl rfl hl.1 rfl (lv_room (Nat.le_of_ble_eq_true rfl)) dL_acts_262 ⟨Nat.le_refl _, Nat.le_refl _⟩) hP hD hS hA [6, 7, 8, 2, 3] [0, 1, 4, 5, 9, 10] rfl rfl (by decide) (by decide) (fun r262 u262 H locs hw262 hP hD hS => ?_)
            obtain ⟨uf2262, rfl⟩ : ∃ z, z = u262 := ⟨_, rfl⟩
            have hP : va_P dg vwCl [(xt, .inr (6, [.ref xtc, .int (nI tl)])), (xtc, .inl (tq.1, 100, .inl tx)), (xw, .inr (3, [.ref xwe, .int wl])), (xwe, .inl (tq.1, 60, .inl wf)), (xh, .inr (0, [.ref xhc, .int (nI st2217), .int (nI nx2217)])), (xhc, .inl (tq.1, 7365, .inl hc2217)), (x0, .inr (7, [.ref xl, .ref xh, .ref xt, .ref xp, .ref xo, .ref xu, .ref xw])), (xl, .inr (1, [.ref xlc])), (xlc, .inl (tq.1, 1473, .inl cw217)), (xu, .inr (5, [.ref xus])), (xus, .inl (tq.1, 6, .inl uf2262))] H := hP
            have hD : va_D AA [(xt, .inr (6, [.ref xtc, .int (nI tl)])), (xtc, .inl (tq.1, 100, .inl tx)), (xw, .inr (3, [.ref xwe, .int wl])), (xwe, .inl (tq.1, 60, .inl wf)), (xh, .inr (0, [.ref xhc, .int (nI st2217), .int (nI nx2217)])), (xhc, .inl (tq.1, 7365, .inl hc2217)), (x0, .inr (7, [.ref xl, .ref xh, .ref xt, .ref xp, .ref xo, .ref xu, .ref xw])), (xl, .inr (1, [.ref xlc])), (xlc, .inl (tq.1, 1473, .inl cw217)), (xu, .inr (5, [.ref xus])), (xus, .inl (tq.1, 6, .inl uf2262))] := hD
            subst hw262
            refine r_top (show (etR s1 (nI (nE s)) (nI 0)) = (me s1 (nE s) 1) from (et_ (by omega) (by omega) (by omega))) ?_
            refine r_top (show (me s1 (nE s) 1) = (nI 4) from q3) ?_
            refine lv_iconst (v := (nI 4)) hx hb dL_acts_265 (by decide) ?_
            refine r_icmp_ne (tgt := 300) hx hb (nI_tI (by omega)) (nI_tI (by omega)) dL_acts_266 (by decide) (fun c266 => False.elim (by omega)) (fun c266 => ?_)
            refine lv_aload_n hx hb dL_acts_269 rfl (lv_at hl 5 rfl) ?_
            refine lv_iload_n hx hb dL_acts_270 rfl (lv_at hl 3 rfl) ?_
            refine lv_iconst (v := (nI 3)) hx hb dL_acts_271 (by decide) ?_
            refine call_w (wr := [(xt, .inr (6, [.ref xtc, .int (nI tl)])), (xtc, .inl (tq.1, 100, .inl tx)), (xw, .inr (3, [.ref xwe, .int wl])), (xwe, .inl (tq.1, 60, .inl wf)), (xh, .inr (0, [.ref xhc, .int (nI st2217), .int (nI nx2217)])), (xhc, .inl (tq.1, 7365, .inl hc2217))]) (va_runV (As := [.int (nI (nE s)), .int (nI 3)]) (rest := []) ⟨hx, hb, hml, hown, hts⟩ (kX7_entry ln dg tq (x0 := x0) (xl := xl) (xh := xh) (xt := xt) (xp := xp) (xo := xo) (xu := xu) (xw := xw) (xlc := xlc) (c := cw217) (s := s1) (hF := hF1) (xus := xus) (uf := uf2262) (x := (nI (nE s))) (w := (nI 3)) H.size) (cwV 2 hts gL_acts_X7_entry rfl rfl rfl hdX7_entry ⟨Nat.le_of_ble_eq_true rfl, Nat.le_of_ble_eq_true rfl⟩) (preVB hK hN hP hD [6, 7, 8, 9, 10] rfl rfl rfl 6 rfl rfl [.int (nI (nE s)), .int (nI 3)]) rfl rfl hl.1 rfl (lv_room (Nat.le_of_ble_eq_true rfl)) dL_acts_272 ⟨Nat.le_refl _, Nat.le_refl _⟩) hP hD hS hA [6, 7, 8, 9, 10] [0, 1, 2, 3, 4, 5] rfl rfl (by decide) (by decide) (fun r272 u272 H locs hw272 hP hD hS => ?_)
            obtain ⟨uf2272, rfl⟩ : ∃ z, z = u272 := ⟨_, rfl⟩
            have hP : va_P dg vwCl [(xt, .inr (6, [.ref xtc, .int (nI tl)])), (xtc, .inl (tq.1, 100, .inl tx)), (xw, .inr (3, [.ref xwe, .int wl])), (xwe, .inl (tq.1, 60, .inl wf)), (xh, .inr (0, [.ref xhc, .int (nI st2217), .int (nI nx2217)])), (xhc, .inl (tq.1, 7365, .inl hc2217)), (x0, .inr (7, [.ref xl, .ref xh, .ref xt, .ref xp, .ref xo, .ref xu, .ref xw])), (xl, .inr (1, [.ref xlc])), (xlc, .inl (tq.1, 1473, .inl cw217)), (xu, .inr (5, [.ref xus])), (xus, .inl (tq.1, 6, .inl uf2272))] H := hP
            have hD : va_D AA [(xt, .inr (6, [.ref xtc, .int (nI tl)])), (xtc, .inl (tq.1, 100, .inl tx)), (xw, .inr (3, [.ref xwe, .int wl])), (xwe, .inl (tq.1, 60, .inl wf)), (xh, .inr (0, [.ref xhc, .int (nI st2217), .int (nI nx2217)])), (xhc, .inl (tq.1, 7365, .inl hc2217)), (x0, .inr (7, [.ref xl, .ref xh, .ref xt, .ref xp, .ref xo, .ref xu, .ref xw])), (xl, .inr (1, [.ref xlc])), (xlc, .inl (tq.1, 1473, .inl cw217)), (xu, .inr (5, [.ref xus])), (xus, .inl (tq.1, 6, .inl uf2272))] := hD
            subst hw272
            refine r_top (show (etR s1 (nI (nE s)) (nI 3)) = (me s1 (nE s) 4) from (et_ (by omega) (by omega) (by omega))) ?_
            refine r_top (show (me s1 (nE s) 4) = (nI (lf s b_)) from q4) ?_
            refine lv_aload_n hx hb dL_acts_275 rfl (lv_at hl 5 rfl) ?_
            refine lv_iload hx hb dL_acts_276 (lv_at hl 2 rfl) ?_
            refine lv_iconst (v := (nI 0)) hx hb dL_acts_278 (by decide) ?_
            refine call_x (va_runV (As := [.int (nI b_), .int (nI 0)]) (rest := [.int (nI (lf s b_))]) ⟨hx, hb, hml, hown, hts⟩ (kX7_branch ln dg tq (x0 := x0) (xl := xl) (xh := xh) (xt := xt) (xp := xp) (xo := xo) (xu := xu) (xw := xw) (xlc := xlc) (c := cw217) (s := s1) (hF := hF1) (x := (nI b_)) (w := (nI 0)) H.size) (cwV 2 hts gL_acts_X7_branch rfl rfl rfl hdX7_branch ⟨Nat.le_of_ble_eq_true rfl, Nat.le_of_ble_eq_true rfl⟩) (preVR hK hN hP [6, 7, 8] rfl 6 rfl rfl [.int (nI b_), .int (nI 0)]) rfl rfl hl.1 rfl (lv_room (Nat.le_of_ble_eq_true rfl)) dL_acts_279 ⟨Nat.le_refl _, Nat.le_refl _⟩) hP hS hA (fun H locs hP hS => ?_)
            refine r_top (show (brR s1 (nI b_) (nI 0)) = (nI (lf s1 b_)) from (br_ (by omega) (by omega) (by omega))) ?_
            refine r_top (show (nI (lf s1 b_)) = (nI (lf s b_)) from congrArg nI q5) ?_
            refine r_icmp_ne (tgt := 300) hx hb (nI_tI (by omega)) (nI_tI (by omega)) dL_acts_282 (by decide) (fun c282 => False.elim (by omega)) (fun c282 => ?_)
            refine lv_aload_n hx hb dL_acts_285 rfl (lv_at hl 5 rfl) ?_
            refine lv_iload hx hb dL_acts_286 (lv_at hl 2 rfl) ?_
            refine lv_iconst (v := (nI 4)) hx hb dL_acts_288 (by decide) ?_
            refine call_x (va_runV (As := [.int (nI b_), .int (nI 4)]) (rest := []) ⟨hx, hb, hml, hown, hts⟩ (kX7_branch ln dg tq (x0 := x0) (xl := xl) (xh := xh) (xt := xt) (xp := xp) (xo := xo) (xu := xu) (xw := xw) (xlc := xlc) (c := cw217) (s := s1) (hF := hF1) (x := (nI b_)) (w := (nI 4)) H.size) (cwV 2 hts gL_acts_X7_branch rfl rfl rfl hdX7_branch ⟨Nat.le_of_ble_eq_true rfl, Nat.le_of_ble_eq_true rfl⟩) (preVR hK hN hP [6, 7, 8] rfl 6 rfl rfl [.int (nI b_), .int (nI 4)]) rfl rfl hl.1 rfl (lv_room (Nat.le_of_ble_eq_true rfl)) dL_acts_289 ⟨Nat.le_refl _, Nat.le_refl _⟩) hP hS hA (fun H locs hP hS => ?_)
            refine r_top (show (brR s1 (nI b_) (nI 4)) = (brN s1 b_ 4) from (br_ (by omega) (by omega) (by omega))) ?_
            refine r_top (show (brN s1 b_ 4) = (nI 3) from brN_3 q6) ?_
            refine lv_iconst (v := (nI 3)) hx hb dL_acts_292 (by decide) ?_
            refine r_icmp_ne (tgt := 300) hx hb (nI_tI (by omega)) (nI_tI (by omega)) dL_acts_293 (by decide) (fun c293 => False.elim (by omega)) (fun c293 => ?_)
            refine lv_iconst (v := (nI 1)) hx hb dL_acts_296 (by decide) ?_
            refine lv_goto (tgt := 301) hx hb dL_acts_297 (by decide) ?_
            exact hret (nI 1) (cw217, hc2217, st2217, nx2217, uf2272, wl, wf) H locs _ ls (show (nI 1) = (nI 1) ∧ (∃ s2, LX s2 cw217 st2217 nx2217) from (⟨rfl, s1, hL1⟩)) rfl (hP.sub [6, 7, 8, 4, 5, 0, 1, 9, 10, 2, 3] rfl) (hD.sub [6, 7, 8, 4, 5, 0, 1, 9, 10, 2, 3] (by decide) rfl) hS dL_acts_301
          · skip
            obtain ⟨q1, q2⟩ := hneg c224
            refine lv_iload hx hb dL_acts_227 (lv_at hl 0 rfl) ?_
            refine lv_iload hx hb dL_acts_229 (lv_at hl 1 rfl) ?_
            refine lv_iconst (v := (nI 1)) hx hb dL_acts_231 (by decide) ?_
            refine r_icmp_le (tgt := 240) hx hb (nI_tI (by omega)) (nI_tI (by omega)) dL_acts_232 (by decide) (fun c232 => ?_) (fun c232 => False.elim (by omega))
            refine lv_ldc hx hb hown k65 dL_acts_240 ?_
            refine r_icmp_ne (tgt := 249) hx hb rfl (by decide : ((-100003) : Int32).toInt = (-100003)) dL_acts_242 (by decide) (fun c242 => False.elim (by have q := q2 hwt; omega)) (fun c242 => ?_)
            refine lv_iconst (v := (nI 1)) hx hb dL_acts_245 (by decide) ?_
            refine lv_goto (tgt := 301) hx hb dL_acts_246 (by decide) ?_
            exact hret (nI 1) (cw217, hc2217, st2217, nx2217, uf, wl, wf) H locs _ ls (show (nI 1) = (nI 1) ∧ (∃ s2, LX s2 cw217 st2217 nx2217) from (⟨rfl, s1, hL1⟩)) rfl (hP.sub [6, 7, 8, 9, 10, 0, 1, 2, 3, 4, 5] rfl) (hD.sub [6, 7, 8, 9, 10, 0, 1, 2, 3, 4, 5] (by decide) rfl) hS dL_acts_301
        · skip
          by_cases h2 : mb s b_ 3 = nI 2
          · skip
            refine lv_aload_n hx hb dL_acts_205 rfl (lv_at hl 3 rfl) ?_
            refine lv_iload hx hb dL_acts_206 (lv_at hl 0 rfl) ?_
            refine lv_iconst (v := (nI 4)) hx hb dL_acts_208 (by decide) ?_
            refine call_x (va_runV (As := [.int (nI b_), .int (nI 4)]) (rest := []) ⟨hx, hb, hml, hown, hts⟩ (kX7_branch ln dg tq (x0 := x0) (xl := xl) (xh := xh) (xt := xt) (xp := xp) (xo := xo) (xu := xu) (xw := xw) (xlc := xlc) (c := c) (s := s) (hF := hF) (x := (nI b_)) (w := (nI 4)) H.size) (cwV 2 hts gL_acts_X7_branch rfl rfl rfl hdX7_branch ⟨Nat.le_of_ble_eq_true rfl, Nat.le_of_ble_eq_true rfl⟩) (preVR hK hN hP [0, 1, 2] rfl 0 rfl rfl [.int (nI b_), .int (nI 4)]) rfl rfl hl.1 rfl (lv_room (Nat.le_of_ble_eq_true rfl)) dL_acts_209 ⟨Nat.le_refl _, Nat.le_refl _⟩) hP hS hA (fun H locs hP hS => ?_)
            refine r_top (show (brR s (nI b_) (nI 4)) = (brN s b_ 4) from (br_ (by omega) (by omega) (by omega))) ?_
            refine r_top (show (brN s b_ 4) = (nI 2) from (brN_n hld).trans h2) ?_
            refine lv_istore (lv' := [(9, .int (nI 2)), (8, .int (nI b_)), (3, .int (nI (nE s))), (2, .int (nI z)), (0, .ref x0), (1, .int (nI y))]) hx hb dL_acts_212 hl (by decide) rfl (fun ls hl => ?_)
            refine lv_aload_n hx hb dL_acts_214 rfl (lv_at hl 4 rfl) ?_
            refine lv_iload hx hb dL_acts_215 (lv_at hl 1 rfl) ?_
            refine call_w (wr := [(xt, .inr (6, [.ref xtc, .int (nI tl)])), (xtc, .inl (tq.1, 100, .inl tx)), (xu, .inr (5, [.ref xus])), (xus, .inl (tq.1, 6, .inl uf)), (xw, .inr (3, [.ref xwe, .int wl])), (xwe, .inl (tq.1, 60, .inl wf))]) (va_runV (As := [.int (nI b_)]) (rest := []) ⟨hx, hb, hml, hown, hts⟩ (kX7_dismiss ln dg tq (x0 := x0) (xl := xl) (xh := xh) (xt := xt) (xp := xp) (xo := xo) (xu := xu) (xw := xw) (xlc := xlc) (c := c) (s := s) (hF := hF) (xhc := xhc) (st := st) (nx := nx) (hc := hc) (hst := (by omega)) (hnx := (by omega)) (x := (nI b_)) H.size) (cwV 1 hts gL_acts_X7_dismiss rfl rfl rfl hdX7_dismiss ⟨Nat.le_of_ble_eq_true rfl, Nat.le_of_ble_eq_true rfl⟩) (preVB hK hN hP hD [0, 1, 2, 3, 4] rfl rfl rfl 0 rfl rfl [.int (nI b_)]) rfl rfl hl.1 rfl (lv_room (Nat.le_of_ble_eq_true rfl)) dL_acts_217 ⟨Nat.le_refl _, Nat.le_refl _⟩) hP hD hS hA [0, 1, 2, 3, 4] [5, 6, 7, 8, 9, 10] rfl rfl (by decide) (by decide) (fun r217 u217 H locs hw217 hP hD hS => ?_)
            obtain ⟨cw217, hc2217, st2217, nx2217⟩ := u217
            have hP : va_P dg vwCl [(xt, .inr (6, [.ref xtc, .int (nI tl)])), (xtc, .inl (tq.1, 100, .inl tx)), (xu, .inr (5, [.ref xus])), (xus, .inl (tq.1, 6, .inl uf)), (xw, .inr (3, [.ref xwe, .int wl])), (xwe, .inl (tq.1, 60, .inl wf)), (x0, .inr (7, [.ref xl, .ref xh, .ref xt, .ref xp, .ref xo, .ref xu, .ref xw])), (xl, .inr (1, [.ref xlc])), (xlc, .inl (tq.1, 1473, .inl cw217)), (xh, .inr (0, [.ref xhc, .int (nI st2217), .int (nI nx2217)])), (xhc, .inl (tq.1, 7365, .inl hc2217))] H := hP
            have hD : va_D AA [(xt, .inr (6, [.ref xtc, .int (nI tl)])), (xtc, .inl (tq.1, 100, .inl tx)), (xu, .inr (5, [.ref xus])), (xus, .inl (tq.1, 6, .inl uf)), (xw, .inr (3, [.ref xwe, .int wl])), (xwe, .inl (tq.1, 60, .inl wf)), (x0, .inr (7, [.ref xl, .ref xh, .ref xt, .ref xp, .ref xo, .ref xu, .ref xw])), (xl, .inr (1, [.ref xlc])), (xlc, .inl (tq.1, 1473, .inl cw217)), (xh, .inr (0, [.ref xhc, .int (nI st2217), .int (nI nx2217)])), (xhc, .inl (tq.1, 7365, .inl hc2217))] := hD
            obtain ⟨hr217, hw217⟩ := hw217
            subst hr217
            obtain ⟨tv_, htv_⟩ : ∃ x : Int32, x = dsR s (nI b_) := ⟨_, rfl⟩
            obtain ⟨s1, hL1, hB1, hneg, hpos⟩ := A_ds hL hb_ htv_ hw217
            obtain ⟨hF1, hX1, hst1, hnx1⟩ := id hL1
            obtain ⟨hR1, hW1, -, -⟩ := id hF1
            have hn601 := hW1.n60
            have hn11 := hW1.n1
            have hb101 := hW1.b10
            have hs81 := hW1.s8
            have hhn1 := hW1.hn
            have hlf := hW.lfl (b := b_) (by omega)
            refine r_top (show (dsR s (nI b_)) = tv_ from htv_.symm) ?_
            refine lv_istore (lv' := [(10, .int tv_), (9, .int (nI 2)), (8, .int (nI b_)), (3, .int (nI (nE s))), (2, .int (nI z)), (0, .ref x0), (1, .int (nI y))]) hx hb dL_acts_220 hl (by decide) rfl (fun ls hl => ?_)
            refine lv_iload hx hb dL_acts_222 (lv_at hl 0 rfl) ?_
            refine r_if_ge (tgt := 253) hx hb rfl dL_acts_224 (by decide) (fun c224 => ?_) (fun c224 => ?_)
            · skip
              obtain ⟨q1, q2, q3, q4, q5, q6⟩ := hpos c224
              refine lv_iload hx hb dL_acts_253 (lv_at hl 0 rfl) ?_
              refine lv_iload_n hx hb dL_acts_255 rfl (lv_at hl 3 rfl) ?_
              refine r_icmp_ne (tgt := 300) hx hb rfl (nI_tI (by omega)) dL_acts_256 (by decide) (fun c256 => False.elim (by omega)) (fun c256 => ?_)
              refine lv_aload_n hx hb dL_acts_259 rfl (lv_at hl 5 rfl) ?_
              refine lv_iload_n hx hb dL_acts_260 rfl (lv_at hl 3 rfl) ?_
              refine lv_iconst (v := (nI 0)) hx hb dL_acts_261 (by decide) ?_
              refine call_w (wr := [(xt, .inr (6, [.ref xtc, .int (nI tl)])), (xtc, .inl (tq.1, 100, .inl tx)), (xw, .inr (3, [.ref xwe, .int wl])), (xwe, .inl (tq.1, 60, .inl wf)), (xh, .inr (0, [.ref xhc, .int (nI st2217), .int (nI nx2217)])), (xhc, .inl (tq.1, 7365, .inl hc2217))]) (va_runV (As := [.int (nI (nE s)), .int (nI 0)]) (rest := []) ⟨hx, hb, hml, hown, hts⟩ (kX7_entry ln dg tq (x0 := x0) (xl := xl) (xh := xh) (xt := xt) (xp := xp) (xo := xo) (xu := xu) (xw := xw) (xlc := xlc) (c := cw217) (s := s1) (hF := hF1) (xus := xus) (uf := uf) (x := (nI (nE s))) (w := (nI 0)) H.size) (cwV 2 hts gL_acts_X7_entry rfl rfl rfl hdX7_entry ⟨Nat.le_of_ble_eq_true rfl, Nat.le_of_ble_eq_true rfl⟩) (preVB hK hN hP hD [6, 7, 8, 2, 3] rfl rfl rfl 6 rfl rfl [.int (nI (nE s)), .int (nI 0)]) rfl rfl hl.1 rfl (lv_room (Nat.le_of_ble_eq_true rfl)) dL_acts_262 ⟨Nat.le_refl _, Nat.le_refl _⟩) hP hD hS hA [6, 7, 8, 2, 3] [0, 1, 4, 5, 9, 10] rfl rfl (by decide) (by decide) (fun r262 u262 H locs hw262 hP hD hS => ?_)
              obtain ⟨uf2262, rfl⟩ : ∃ z, z = u262 := ⟨_, rfl⟩
              have hP : va_P dg vwCl [(xt, .inr (6, [.ref xtc, .int (nI tl)])), (xtc, .inl (tq.1, 100, .inl tx)), (xw, .inr (3, [.ref xwe, .int wl])), (xwe, .inl (tq.1, 60, .inl wf)), (xh, .inr (0, [.ref xhc, .int (nI st2217), .int (nI nx2217)])), (xhc, .inl (tq.1, 7365, .inl hc2217)), (x0, .inr (7, [.ref xl, .ref xh, .ref xt, .ref xp, .ref xo, .ref xu, .ref xw])), (xl, .inr (1, [.ref xlc])), (xlc, .inl (tq.1, 1473, .inl cw217)), (xu, .inr (5, [.ref xus])), (xus, .inl (tq.1, 6, .inl uf2262))] H := hP
              have hD : va_D AA [(xt, .inr (6, [.ref xtc, .int (nI tl)])), (xtc, .inl (tq.1, 100, .inl tx)), (xw, .inr (3, [.ref xwe, .int wl])), (xwe, .inl (tq.1, 60, .inl wf)), (xh, .inr (0, [.ref xhc, .int (nI st2217), .int (nI nx2217)])), (xhc, .inl (tq.1, 7365, .inl hc2217)), (x0, .inr (7, [.ref xl, .ref xh, .ref xt, .ref xp, .ref xo, .ref xu, .ref xw])), (xl, .inr (1, [.ref xlc])), (xlc, .inl (tq.1, 1473, .inl cw217)), (xu, .inr (5, [.ref xus])), (xus, .inl (tq.1, 6, .inl uf2262))] := hD
              subst hw262
              refine r_top (show (etR s1 (nI (nE s)) (nI 0)) = (me s1 (nE s) 1) from (et_ (by omega) (by omega) (by omega))) ?_
              refine r_top (show (me s1 (nE s) 1) = (nI 4) from q3) ?_
              refine lv_iconst (v := (nI 4)) hx hb dL_acts_265 (by decide) ?_
              refine r_icmp_ne (tgt := 300) hx hb (nI_tI (by omega)) (nI_tI (by omega)) dL_acts_266 (by decide) (fun c266 => False.elim (by omega)) (fun c266 => ?_)
              refine lv_aload_n hx hb dL_acts_269 rfl (lv_at hl 5 rfl) ?_
              refine lv_iload_n hx hb dL_acts_270 rfl (lv_at hl 3 rfl) ?_
              refine lv_iconst (v := (nI 3)) hx hb dL_acts_271 (by decide) ?_
              refine call_w (wr := [(xt, .inr (6, [.ref xtc, .int (nI tl)])), (xtc, .inl (tq.1, 100, .inl tx)), (xw, .inr (3, [.ref xwe, .int wl])), (xwe, .inl (tq.1, 60, .inl wf)), (xh, .inr (0, [.ref xhc, .int (nI st2217), .int (nI nx2217)])), (xhc, .inl (tq.1, 7365, .inl hc2217))]) (va_runV (As := [.int (nI (nE s)), .int (nI 3)]) (rest := []) ⟨hx, hb, hml, hown, hts⟩ (kX7_entry ln dg tq (x0 := x0) (xl := xl) (xh := xh) (xt := xt) (xp := xp) (xo := xo) (xu := xu) (xw := xw) (xlc := xlc) (c := cw217) (s := s1) (hF := hF1) (xus := xus) (uf := uf2262) (x := (nI (nE s))) (w := (nI 3)) H.size) (cwV 2 hts gL_acts_X7_entry rfl rfl rfl hdX7_entry ⟨Nat.le_of_ble_eq_true rfl, Nat.le_of_ble_eq_true rfl⟩) (preVB hK hN hP hD [6, 7, 8, 9, 10] rfl rfl rfl 6 rfl rfl [.int (nI (nE s)), .int (nI 3)]) rfl rfl hl.1 rfl (lv_room (Nat.le_of_ble_eq_true rfl)) dL_acts_272 ⟨Nat.le_refl _, Nat.le_refl _⟩) hP hD hS hA [6, 7, 8, 9, 10] [0, 1, 2, 3, 4, 5] rfl rfl (by decide) (by decide) (fun r272 u272 H locs hw272 hP hD hS => ?_)
              obtain ⟨uf2272, rfl⟩ : ∃ z, z = u272 := ⟨_, rfl⟩
              have hP : va_P dg vwCl [(xt, .inr (6, [.ref xtc, .int (nI tl)])), (xtc, .inl (tq.1, 100, .inl tx)), (xw, .inr (3, [.ref xwe, .int wl])), (xwe, .inl (tq.1, 60, .inl wf)), (xh, .inr (0, [.ref xhc, .int (nI st2217), .int (nI nx2217)])), (xhc, .inl (tq.1, 7365, .inl hc2217)), (x0, .inr (7, [.ref xl, .ref xh, .ref xt, .ref xp, .ref xo, .ref xu, .ref xw])), (xl, .inr (1, [.ref xlc])), (xlc, .inl (tq.1, 1473, .inl cw217)), (xu, .inr (5, [.ref xus])), (xus, .inl (tq.1, 6, .inl uf2272))] H := hP
              have hD : va_D AA [(xt, .inr (6, [.ref xtc, .int (nI tl)])), (xtc, .inl (tq.1, 100, .inl tx)), (xw, .inr (3, [.ref xwe, .int wl])), (xwe, .inl (tq.1, 60, .inl wf)), (xh, .inr (0, [.ref xhc, .int (nI st2217), .int (nI nx2217)])), (xhc, .inl (tq.1, 7365, .inl hc2217)), (x0, .inr (7, [.ref xl, .ref xh, .ref xt, .ref xp, .ref xo, .ref xu, .ref xw])), (xl, .inr (1, [.ref xlc])), (xlc, .inl (tq.1, 1473, .inl cw217)), (xu, .inr (5, [.ref xus])), (xus, .inl (tq.1, 6, .inl uf2272))] := hD
              subst hw272
              refine r_top (show (etR s1 (nI (nE s)) (nI 3)) = (me s1 (nE s) 4) from (et_ (by omega) (by omega) (by omega))) ?_
              refine r_top (show (me s1 (nE s) 4) = (nI (lf s b_)) from q4) ?_
              refine lv_aload_n hx hb dL_acts_275 rfl (lv_at hl 5 rfl) ?_
              refine lv_iload hx hb dL_acts_276 (lv_at hl 2 rfl) ?_
              refine lv_iconst (v := (nI 0)) hx hb dL_acts_278 (by decide) ?_
              refine call_x (va_runV (As := [.int (nI b_), .int (nI 0)]) (rest := [.int (nI (lf s b_))]) ⟨hx, hb, hml, hown, hts⟩ (kX7_branch ln dg tq (x0 := x0) (xl := xl) (xh := xh) (xt := xt) (xp := xp) (xo := xo) (xu := xu) (xw := xw) (xlc := xlc) (c := cw217) (s := s1) (hF := hF1) (x := (nI b_)) (w := (nI 0)) H.size) (cwV 2 hts gL_acts_X7_branch rfl rfl rfl hdX7_branch ⟨Nat.le_of_ble_eq_true rfl, Nat.le_of_ble_eq_true rfl⟩) (preVR hK hN hP [6, 7, 8] rfl 6 rfl rfl [.int (nI b_), .int (nI 0)]) rfl rfl hl.1 rfl (lv_room (Nat.le_of_ble_eq_true rfl)) dL_acts_279 ⟨Nat.le_refl _, Nat.le_refl _⟩) hP hS hA (fun H locs hP hS => ?_)
              refine r_top (show (brR s1 (nI b_) (nI 0)) = (nI (lf s1 b_)) from (br_ (by omega) (by omega) (by omega))) ?_
              refine r_top (show (nI (lf s1 b_)) = (nI (lf s b_)) from congrArg nI q5) ?_
              refine r_icmp_ne (tgt := 300) hx hb (nI_tI (by omega)) (nI_tI (by omega)) dL_acts_282 (by decide) (fun c282 => False.elim (by omega)) (fun c282 => ?_)
              refine lv_aload_n hx hb dL_acts_285 rfl (lv_at hl 5 rfl) ?_
              refine lv_iload hx hb dL_acts_286 (lv_at hl 2 rfl) ?_
              refine lv_iconst (v := (nI 4)) hx hb dL_acts_288 (by decide) ?_
              refine call_x (va_runV (As := [.int (nI b_), .int (nI 4)]) (rest := []) ⟨hx, hb, hml, hown, hts⟩ (kX7_branch ln dg tq (x0 := x0) (xl := xl) (xh := xh) (xt := xt) (xp := xp) (xo := xo) (xu := xu) (xw := xw) (xlc := xlc) (c := cw217) (s := s1) (hF := hF1) (x := (nI b_)) (w := (nI 4)) H.size) (cwV 2 hts gL_acts_X7_branch rfl rfl rfl hdX7_branch ⟨Nat.le_of_ble_eq_true rfl, Nat.le_of_ble_eq_true rfl⟩) (preVR hK hN hP [6, 7, 8] rfl 6 rfl rfl [.int (nI b_), .int (nI 4)]) rfl rfl hl.1 rfl (lv_room (Nat.le_of_ble_eq_true rfl)) dL_acts_289 ⟨Nat.le_refl _, Nat.le_refl _⟩) hP hS hA (fun H locs hP hS => ?_)
              refine r_top (show (brR s1 (nI b_) (nI 4)) = (brN s1 b_ 4) from (br_ (by omega) (by omega) (by omega))) ?_
              refine r_top (show (brN s1 b_ 4) = (nI 3) from brN_3 q6) ?_
              refine lv_iconst (v := (nI 3)) hx hb dL_acts_292 (by decide) ?_
              refine r_icmp_ne (tgt := 300) hx hb (nI_tI (by omega)) (nI_tI (by omega)) dL_acts_293 (by decide) (fun c293 => False.elim (by omega)) (fun c293 => ?_)
              refine lv_iconst (v := (nI 1)) hx hb dL_acts_296 (by decide) ?_
              refine lv_goto (tgt := 301) hx hb dL_acts_297 (by decide) ?_
              exact hret (nI 1) (cw217, hc2217, st2217, nx2217, uf2272, wl, wf) H locs _ ls (show (nI 1) = (nI 1) ∧ (∃ s2, LX s2 cw217 st2217 nx2217) from (⟨rfl, s1, hL1⟩)) rfl (hP.sub [6, 7, 8, 4, 5, 0, 1, 9, 10, 2, 3] rfl) (hD.sub [6, 7, 8, 4, 5, 0, 1, 9, 10, 2, 3] (by decide) rfl) hS dL_acts_301
            · skip
              obtain ⟨q1, q2⟩ := hneg c224
              refine lv_iload hx hb dL_acts_227 (lv_at hl 0 rfl) ?_
              refine lv_iload hx hb dL_acts_229 (lv_at hl 1 rfl) ?_
              refine lv_iconst (v := (nI 1)) hx hb dL_acts_231 (by decide) ?_
              refine r_icmp_le (tgt := 240) hx hb (nI_tI (by omega)) (nI_tI (by omega)) dL_acts_232 (by decide) (fun c232 => False.elim (by omega)) (fun c232 => ?_)
              refine lv_ldc hx hb hown k64 dL_acts_235 ?_
              refine lv_goto (tgt := 242) hx hb dL_acts_237 (by decide) ?_
              refine r_icmp_ne (tgt := 249) hx hb rfl (by decide : ((-100002) : Int32).toInt = (-100002)) dL_acts_242 (by decide) (fun c242 => False.elim (by have q := q1 (not_t hwt); omega)) (fun c242 => ?_)
              refine lv_iconst (v := (nI 1)) hx hb dL_acts_245 (by decide) ?_
              refine lv_goto (tgt := 301) hx hb dL_acts_246 (by decide) ?_
              exact hret (nI 1) (cw217, hc2217, st2217, nx2217, uf, wl, wf) H locs _ ls (show (nI 1) = (nI 1) ∧ (∃ s2, LX s2 cw217 st2217 nx2217) from (⟨rfl, s1, hL1⟩)) rfl (hP.sub [6, 7, 8, 9, 10, 0, 1, 2, 3, 4, 5] rfl) (hD.sub [6, 7, 8, 9, 10, 0, 1, 2, 3, 4, 5] (by decide) rfl) hS dL_acts_301
          · skip
            refine lv_aload_n hx hb dL_acts_205 rfl (lv_at hl 3 rfl) ?_
            refine lv_iload hx hb dL_acts_206 (lv_at hl 0 rfl) ?_
            refine lv_iconst (v := (nI 4)) hx hb dL_acts_208 (by decide) ?_
            refine call_x (va_runV (As := [.int (nI b_), .int (nI 4)]) (rest := []) ⟨hx, hb, hml, hown, hts⟩ (kX7_branch ln dg tq (x0 := x0) (xl := xl) (xh := xh) (xt := xt) (xp := xp) (xo := xo) (xu := xu) (xw := xw) (xlc := xlc) (c := c) (s := s) (hF := hF) (x := (nI b_)) (w := (nI 4)) H.size) (cwV 2 hts gL_acts_X7_branch rfl rfl rfl hdX7_branch ⟨Nat.le_of_ble_eq_true rfl, Nat.le_of_ble_eq_true rfl⟩) (preVR hK hN hP [0, 1, 2] rfl 0 rfl rfl [.int (nI b_), .int (nI 4)]) rfl rfl hl.1 rfl (lv_room (Nat.le_of_ble_eq_true rfl)) dL_acts_209 ⟨Nat.le_refl _, Nat.le_refl _⟩) hP hS hA (fun H locs hP hS => ?_)
            refine r_top (show (brR s (nI b_) (nI 4)) = (brN s b_ 4) from (br_ (by omega) (by omega) (by omega))) ?_
            refine r_top (show (brN s b_ 4) = (nI 3) from (brN_n hld).trans (wait_st hX (by omega) hwt h2)) ?_
            refine lv_istore (lv' := [(9, .int (nI 3)), (8, .int (nI b_)), (3, .int (nI (nE s))), (2, .int (nI z)), (0, .ref x0), (1, .int (nI y))]) hx hb dL_acts_212 hl (by decide) rfl (fun ls hl => ?_)
            refine lv_aload_n hx hb dL_acts_214 rfl (lv_at hl 4 rfl) ?_
            refine lv_iload hx hb dL_acts_215 (lv_at hl 1 rfl) ?_
            refine call_w (wr := [(xt, .inr (6, [.ref xtc, .int (nI tl)])), (xtc, .inl (tq.1, 100, .inl tx)), (xu, .inr (5, [.ref xus])), (xus, .inl (tq.1, 6, .inl uf)), (xw, .inr (3, [.ref xwe, .int wl])), (xwe, .inl (tq.1, 60, .inl wf))]) (va_runV (As := [.int (nI b_)]) (rest := []) ⟨hx, hb, hml, hown, hts⟩ (kX7_dismiss ln dg tq (x0 := x0) (xl := xl) (xh := xh) (xt := xt) (xp := xp) (xo := xo) (xu := xu) (xw := xw) (xlc := xlc) (c := c) (s := s) (hF := hF) (xhc := xhc) (st := st) (nx := nx) (hc := hc) (hst := (by omega)) (hnx := (by omega)) (x := (nI b_)) H.size) (cwV 1 hts gL_acts_X7_dismiss rfl rfl rfl hdX7_dismiss ⟨Nat.le_of_ble_eq_true rfl, Nat.le_of_ble_eq_true rfl⟩) (preVB hK hN hP hD [0, 1, 2, 3, 4] rfl rfl rfl 0 rfl rfl [.int (nI b_)]) rfl rfl hl.1 rfl (lv_room (Nat.le_of_ble_eq_true rfl)) dL_acts_217 ⟨Nat.le_refl _, Nat.le_refl _⟩) hP hD hS hA [0, 1, 2, 3, 4] [5, 6, 7, 8, 9, 10] rfl rfl (by decide) (by decide) (fun r217 u217 H locs hw217 hP hD hS => ?_)
            obtain ⟨cw217, hc2217, st2217, nx2217⟩ := u217
            have hP : va_P dg vwCl [(xt, .inr (6, [.ref xtc, .int (nI tl)])), (xtc, .inl (tq.1, 100, .inl tx)), (xu, .inr (5, [.ref xus])), (xus, .inl (tq.1, 6, .inl uf)), (xw, .inr (3, [.ref xwe, .int wl])), (xwe, .inl (tq.1, 60, .inl wf)), (x0, .inr (7, [.ref xl, .ref xh, .ref xt, .ref xp, .ref xo, .ref xu, .ref xw])), (xl, .inr (1, [.ref xlc])), (xlc, .inl (tq.1, 1473, .inl cw217)), (xh, .inr (0, [.ref xhc, .int (nI st2217), .int (nI nx2217)])), (xhc, .inl (tq.1, 7365, .inl hc2217))] H := hP
            have hD : va_D AA [(xt, .inr (6, [.ref xtc, .int (nI tl)])), (xtc, .inl (tq.1, 100, .inl tx)), (xu, .inr (5, [.ref xus])), (xus, .inl (tq.1, 6, .inl uf)), (xw, .inr (3, [.ref xwe, .int wl])), (xwe, .inl (tq.1, 60, .inl wf)), (x0, .inr (7, [.ref xl, .ref xh, .ref xt, .ref xp, .ref xo, .ref xu, .ref xw])), (xl, .inr (1, [.ref xlc])), (xlc, .inl (tq.1, 1473, .inl cw217)), (xh, .inr (0, [.ref xhc, .int (nI st2217), .int (nI nx2217)])), (xhc, .inl (tq.1, 7365, .inl hc2217))] := hD
            obtain ⟨hr217, hw217⟩ := hw217
            subst hr217
            obtain ⟨tv_, htv_⟩ : ∃ x : Int32, x = dsR s (nI b_) := ⟨_, rfl⟩
            obtain ⟨s1, hL1, hB1, hneg, hpos⟩ := A_ds hL hb_ htv_ hw217
            obtain ⟨hF1, hX1, hst1, hnx1⟩ := id hL1
            obtain ⟨hR1, hW1, -, -⟩ := id hF1
            have hn601 := hW1.n60
            have hn11 := hW1.n1
            have hb101 := hW1.b10
            have hs81 := hW1.s8
            have hhn1 := hW1.hn
            have hlf := hW.lfl (b := b_) (by omega)
            refine r_top (show (dsR s (nI b_)) = tv_ from htv_.symm) ?_
            refine lv_istore (lv' := [(10, .int tv_), (9, .int (nI 3)), (8, .int (nI b_)), (3, .int (nI (nE s))), (2, .int (nI z)), (0, .ref x0), (1, .int (nI y))]) hx hb dL_acts_220 hl (by decide) rfl (fun ls hl => ?_)
            refine lv_iload hx hb dL_acts_222 (lv_at hl 0 rfl) ?_
            refine r_if_ge (tgt := 253) hx hb rfl dL_acts_224 (by decide) (fun c224 => ?_) (fun c224 => ?_)
            · skip
              obtain ⟨q1, q2, q3, q4, q5, q6⟩ := hpos c224
              refine lv_iload hx hb dL_acts_253 (lv_at hl 0 rfl) ?_
              refine lv_iload_n hx hb dL_acts_255 rfl (lv_at hl 3 rfl) ?_
              refine r_icmp_ne (tgt := 300) hx hb rfl (nI_tI (by omega)) dL_acts_256 (by decide) (fun c256 => False.elim (by omega)) (fun c256 => ?_)
              refine lv_aload_n hx hb dL_acts_259 rfl (lv_at hl 5 rfl) ?_
              refine lv_iload_n hx hb dL_acts_260 rfl (lv_at hl 3 rfl) ?_
              refine lv_iconst (v := (nI 0)) hx hb dL_acts_261 (by decide) ?_
              refine call_w (wr := [(xt, .inr (6, [.ref xtc, .int (nI tl)])), (xtc, .inl (tq.1, 100, .inl tx)), (xw, .inr (3, [.ref xwe, .int wl])), (xwe, .inl (tq.1, 60, .inl wf)), (xh, .inr (0, [.ref xhc, .int (nI st2217), .int (nI nx2217)])), (xhc, .inl (tq.1, 7365, .inl hc2217))]) (va_runV (As := [.int (nI (nE s)), .int (nI 0)]) (rest := []) ⟨hx, hb, hml, hown, hts⟩ (kX7_entry ln dg tq (x0 := x0) (xl := xl) (xh := xh) (xt := xt) (xp := xp) (xo := xo) (xu := xu) (xw := xw) (xlc := xlc) (c := cw217) (s := s1) (hF := hF1) (xus := xus) (uf := uf) (x := (nI (nE s))) (w := (nI 0)) H.size) (cwV 2 hts gL_acts_X7_entry rfl rfl rfl hdX7_entry ⟨Nat.le_of_ble_eq_true rfl, Nat.le_of_ble_eq_true rfl⟩) (preVB hK hN hP hD [6, 7, 8, 2, 3] rfl rfl rfl 6 rfl rfl [.int (nI (nE s)), .int (nI 0)]) rfl rfl hl.1 rfl (lv_room (Nat.le_of_ble_eq_true rfl)) dL_acts_262 ⟨Nat.le_refl _, Nat.le_refl _⟩) hP hD hS hA [6, 7, 8, 2, 3] [0, 1, 4, 5, 9, 10] rfl rfl (by decide) (by decide) (fun r262 u262 H locs hw262 hP hD hS => ?_)
              obtain ⟨uf2262, rfl⟩ : ∃ z, z = u262 := ⟨_, rfl⟩
              have hP : va_P dg vwCl [(xt, .inr (6, [.ref xtc, .int (nI tl)])), (xtc, .inl (tq.1, 100, .inl tx)), (xw, .inr (3, [.ref xwe, .int wl])), (xwe, .inl (tq.1, 60, .inl wf)), (xh, .inr (0, [.ref xhc, .int (nI st2217), .int (nI nx2217)])), (xhc, .inl (tq.1, 7365, .inl hc2217)), (x0, .inr (7, [.ref xl, .ref xh, .ref xt, .ref xp, .ref xo, .ref xu, .ref xw])), (xl, .inr (1, [.ref xlc])), (xlc, .inl (tq.1, 1473, .inl cw217)), (xu, .inr (5, [.ref xus])), (xus, .inl (tq.1, 6, .inl uf2262))] H := hP
              have hD : va_D AA [(xt, .inr (6, [.ref xtc, .int (nI tl)])), (xtc, .inl (tq.1, 100, .inl tx)), (xw, .inr (3, [.ref xwe, .int wl])), (xwe, .inl (tq.1, 60, .inl wf)), (xh, .inr (0, [.ref xhc, .int (nI st2217), .int (nI nx2217)])), (xhc, .inl (tq.1, 7365, .inl hc2217)), (x0, .inr (7, [.ref xl, .ref xh, .ref xt, .ref xp, .ref xo, .ref xu, .ref xw])), (xl, .inr (1, [.ref xlc])), (xlc, .inl (tq.1, 1473, .inl cw217)), (xu, .inr (5, [.ref xus])), (xus, .inl (tq.1, 6, .inl uf2262))] := hD
              subst hw262
              refine r_top (show (etR s1 (nI (nE s)) (nI 0)) = (me s1 (nE s) 1) from (et_ (by omega) (by omega) (by omega))) ?_
              refine r_top (show (me s1 (nE s) 1) = (nI 4) from q3) ?_
              refine lv_iconst (v := (nI 4)) hx hb dL_acts_265 (by decide) ?_
              refine r_icmp_ne (tgt := 300) hx hb (nI_tI (by omega)) (nI_tI (by omega)) dL_acts_266 (by decide) (fun c266 => False.elim (by omega)) (fun c266 => ?_)
              refine lv_aload_n hx hb dL_acts_269 rfl (lv_at hl 5 rfl) ?_
              refine lv_iload_n hx hb dL_acts_270 rfl (lv_at hl 3 rfl) ?_
              refine lv_iconst (v := (nI 3)) hx hb dL_acts_271 (by decide) ?_
              refine call_w (wr := [(xt, .inr (6, [.ref xtc, .int (nI tl)])), (xtc, .inl (tq.1, 100, .inl tx)), (xw, .inr (3, [.ref xwe, .int wl])), (xwe, .inl (tq.1, 60, .inl wf)), (xh, .inr (0, [.ref xhc, .int (nI st2217), .int (nI nx2217)])), (xhc, .inl (tq.1, 7365, .inl hc2217))]) (va_runV (As := [.int (nI (nE s)), .int (nI 3)]) (rest := []) ⟨hx, hb, hml, hown, hts⟩ (kX7_entry ln dg tq (x0 := x0) (xl := xl) (xh := xh) (xt := xt) (xp := xp) (xo := xo) (xu := xu) (xw := xw) (xlc := xlc) (c := cw217) (s := s1) (hF := hF1) (xus := xus) (uf := uf2262) (x := (nI (nE s))) (w := (nI 3)) H.size) (cwV 2 hts gL_acts_X7_entry rfl rfl rfl hdX7_entry ⟨Nat.le_of_ble_eq_true rfl, Nat.le_of_ble_eq_true rfl⟩) (preVB hK hN hP hD [6, 7, 8, 9, 10] rfl rfl rfl 6 rfl rfl [.int (nI (nE s)), .int (nI 3)]) rfl rfl hl.1 rfl (lv_room (Nat.le_of_ble_eq_true rfl)) dL_acts_272 ⟨Nat.le_refl _, Nat.le_refl _⟩) hP hD hS hA [6, 7, 8, 9, 10] [0, 1, 2, 3, 4, 5] rfl rfl (by decide) (by decide) (fun r272 u272 H locs hw272 hP hD hS => ?_)
              obtain ⟨uf2272, rfl⟩ : ∃ z, z = u272 := ⟨_, rfl⟩
              have hP : va_P dg vwCl [(xt, .inr (6, [.ref xtc, .int (nI tl)])), (xtc, .inl (tq.1, 100, .inl tx)), (xw, .inr (3, [.ref xwe, .int wl])), (xwe, .inl (tq.1, 60, .inl wf)), (xh, .inr (0, [.ref xhc, .int (nI st2217), .int (nI nx2217)])), (xhc, .inl (tq.1, 7365, .inl hc2217)), (x0, .inr (7, [.ref xl, .ref xh, .ref xt, .ref xp, .ref xo, .ref xu, .ref xw])), (xl, .inr (1, [.ref xlc])), (xlc, .inl (tq.1, 1473, .inl cw217)), (xu, .inr (5, [.ref xus])), (xus, .inl (tq.1, 6, .inl uf2272))] H := hP
              have hD : va_D AA [(xt, .inr (6, [.ref xtc, .int (nI tl)])), (xtc, .inl (tq.1, 100, .inl tx)), (xw, .inr (3, [.ref xwe, .int wl])), (xwe, .inl (tq.1, 60, .inl wf)), (xh, .inr (0, [.ref xhc, .int (nI st2217), .int (nI nx2217)])), (xhc, .inl (tq.1, 7365, .inl hc2217)), (x0, .inr (7, [.ref xl, .ref xh, .ref xt, .ref xp, .ref xo, .ref xu, .ref xw])), (xl, .inr (1, [.ref xlc])), (xlc, .inl (tq.1, 1473, .inl cw217)), (xu, .inr (5, [.ref xus])), (xus, .inl (tq.1, 6, .inl uf2272))] := hD
              subst hw272
              refine r_top (show (etR s1 (nI (nE s)) (nI 3)) = (me s1 (nE s) 4) from (et_ (by omega) (by omega) (by omega))) ?_
              refine r_top (show (me s1 (nE s) 4) = (nI (lf s b_)) from q4) ?_
              refine lv_aload_n hx hb dL_acts_275 rfl (lv_at hl 5 rfl) ?_
              refine lv_iload hx hb dL_acts_276 (lv_at hl 2 rfl) ?_
              refine lv_iconst (v := (nI 0)) hx hb dL_acts_278 (by decide) ?_
              refine call_x (va_runV (As := [.int (nI b_), .int (nI 0)]) (rest := [.int (nI (lf s b_))]) ⟨hx, hb, hml, hown, hts⟩ (kX7_branch ln dg tq (x0 := x0) (xl := xl) (xh := xh) (xt := xt) (xp := xp) (xo := xo) (xu := xu) (xw := xw) (xlc := xlc) (c := cw217) (s := s1) (hF := hF1) (x := (nI b_)) (w := (nI 0)) H.size) (cwV 2 hts gL_acts_X7_branch rfl rfl rfl hdX7_branch ⟨Nat.le_of_ble_eq_true rfl, Nat.le_of_ble_eq_true rfl⟩) (preVR hK hN hP [6, 7, 8] rfl 6 rfl rfl [.int (nI b_), .int (nI 0)]) rfl rfl hl.1 rfl (lv_room (Nat.le_of_ble_eq_true rfl)) dL_acts_279 ⟨Nat.le_refl _, Nat.le_refl _⟩) hP hS hA (fun H locs hP hS => ?_)
              refine r_top (show (brR s1 (nI b_) (nI 0)) = (nI (lf s1 b_)) from (br_ (by omega) (by omega) (by omega))) ?_
              refine r_top (show (nI (lf s1 b_)) = (nI (lf s b_)) from congrArg nI q5) ?_
              refine r_icmp_ne (tgt := 300) hx hb (nI_tI (by omega)) (nI_tI (by omega)) dL_acts_282 (by decide) (fun c282 => False.elim (by omega)) (fun c282 => ?_)
              refine lv_aload_n hx hb dL_acts_285 rfl (lv_at hl 5 rfl) ?_
              refine lv_iload hx hb dL_acts_286 (lv_at hl 2 rfl) ?_
              refine lv_iconst (v := (nI 4)) hx hb dL_acts_288 (by decide) ?_
              refine call_x (va_runV (As := [.int (nI b_), .int (nI 4)]) (rest := []) ⟨hx, hb, hml, hown, hts⟩ (kX7_branch ln dg tq (x0 := x0) (xl := xl) (xh := xh) (xt := xt) (xp := xp) (xo := xo) (xu := xu) (xw := xw) (xlc := xlc) (c := cw217) (s := s1) (hF := hF1) (x := (nI b_)) (w := (nI 4)) H.size) (cwV 2 hts gL_acts_X7_branch rfl rfl rfl hdX7_branch ⟨Nat.le_of_ble_eq_true rfl, Nat.le_of_ble_eq_true rfl⟩) (preVR hK hN hP [6, 7, 8] rfl 6 rfl rfl [.int (nI b_), .int (nI 4)]) rfl rfl hl.1 rfl (lv_room (Nat.le_of_ble_eq_true rfl)) dL_acts_289 ⟨Nat.le_refl _, Nat.le_refl _⟩) hP hS hA (fun H locs hP hS => ?_)
              refine r_top (show (brR s1 (nI b_) (nI 4)) = (brN s1 b_ 4) from (br_ (by omega) (by omega) (by omega))) ?_
              refine r_top (show (brN s1 b_ 4) = (nI 3) from brN_3 q6) ?_
              refine lv_iconst (v := (nI 3)) hx hb dL_acts_292 (by decide) ?_
              refine r_icmp_ne (tgt := 300) hx hb (nI_tI (by omega)) (nI_tI (by omega)) dL_acts_293 (by decide) (fun c293 => False.elim (by omega)) (fun c293 => ?_)
              refine lv_iconst (v := (nI 1)) hx hb dL_acts_296 (by decide) ?_
              refine lv_goto (tgt := 301) hx hb dL_acts_297 (by decide) ?_
              exact hret (nI 1) (cw217, hc2217, st2217, nx2217, uf2272, wl, wf) H locs _ ls (show (nI 1) = (nI 1) ∧ (∃ s2, LX s2 cw217 st2217 nx2217) from (⟨rfl, s1, hL1⟩)) rfl (hP.sub [6, 7, 8, 4, 5, 0, 1, 9, 10, 2, 3] rfl) (hD.sub [6, 7, 8, 4, 5, 0, 1, 9, 10, 2, 3] (by decide) rfl) hS dL_acts_301
            · skip
              obtain ⟨q1, q2⟩ := hneg c224
              refine lv_iload hx hb dL_acts_227 (lv_at hl 0 rfl) ?_
              refine lv_iload hx hb dL_acts_229 (lv_at hl 1 rfl) ?_
              refine lv_iconst (v := (nI 1)) hx hb dL_acts_231 (by decide) ?_
              refine r_icmp_le (tgt := 240) hx hb (nI_tI (by omega)) (nI_tI (by omega)) dL_acts_232 (by decide) (fun c232 => False.elim (by omega)) (fun c232 => ?_)
              refine lv_ldc hx hb hown k64 dL_acts_235 ?_
              refine lv_goto (tgt := 242) hx hb dL_acts_237 (by decide) ?_
              refine r_icmp_ne (tgt := 249) hx hb rfl (by decide : ((-100002) : Int32).toInt = (-100002)) dL_acts_242 (by decide) (fun c242 => False.elim (by have q := q1 (not_t hwt); omega)) (fun c242 => ?_)
              refine lv_iconst (v := (nI 1)) hx hb dL_acts_245 (by decide) ?_
              refine lv_goto (tgt := 301) hx hb dL_acts_246 (by decide) ?_
              exact hret (nI 1) (cw217, hc2217, st2217, nx2217, uf, wl, wf) H locs _ ls (show (nI 1) = (nI 1) ∧ (∃ s2, LX s2 cw217 st2217 nx2217) from (⟨rfl, s1, hL1⟩)) rfl (hP.sub [6, 7, 8, 9, 10, 0, 1, 2, 3, 4, 5] rfl) (hD.sub [6, 7, 8, 9, 10, 0, 1, 2, 3, 4, 5] (by decide) rfl) hS dL_acts_301
    · skip
      refine lv_iconst (v := (nI 1)) hx hb dL_acts_194 (by decide) ?_
      exact hret (nI 1) (c, hc, st, nx, uf, wl, wf) H locs _ ls (show (nI 1) = (nI 1) ∧ (∃ s2, LX s2 c st nx) from (⟨rfl, s, hL⟩)) rfl (hP.sub [0, 1, 2, 3, 4, 5, 6, 7, 8, 9, 10] rfl) (hD.sub [0, 1, 2, 3, 4, 5, 6, 7, 8, 9, 10] (by decide) rfl) hS dL_acts_195
  · skip
    refine lv_tableIn (off := 287) (tgt := 302) hx hb dL_acts_15 (by decide) (by decide) rfl (by decide) ?_
    refine lv_iload_n hx hb dL_acts_302 rfl (lv_at hl 0 rfl) ?_
    refine lv_iconst (v := (nI 1)) hx hb dL_acts_303 (by decide) ?_
    refine r_icmp_ne (tgt := 324) hx hb (nI_tI (by omega)) (nI_tI (by omega)) dL_acts_304 (by decide) (fun c304 => ?_) (fun c304 => ?_)
    · skip
      obtain ⟨e_, he0, he_, hez⟩ : ∃ e, 0 < e ∧ e < nE s ∧ 1 + z % (nE s - 1) = e := ⟨_, by omega, by have q := Nat.mod_lt z (show 0 < nE s - 1 by omega); omega, rfl⟩
      refine lv_iconst (v := (nI 1)) hx hb dL_acts_324 (by decide) ?_
      refine lv_iload_n hx hb dL_acts_325 rfl (lv_at hl 1 rfl) ?_
      refine lv_iload_n hx hb dL_acts_326 rfl (lv_at hl 0 rfl) ?_
      refine lv_iconst (v := (nI 1)) hx hb dL_acts_327 (by decide) ?_
      refine r_isub_n hx hb (by omega) dL_acts_328 ?_
      refine r_irem_n hx hb (by omega) (by omega) (by omega) dL_acts_329 ?_
      refine r_iadd_n hx hb dL_acts_330 ?_
      refine r_top (show (nI (1 + (z % ((nE s) - 1)))) = (nI e_) from congrArg nI hez) ?_
      refine lv_istore (lv' := [(11, .int (nI e_)), (3, .int (nI (nE s))), (2, .int (nI z)), (0, .ref x0), (1, .int (nI y))]) hx hb dL_acts_331 hl (by decide) rfl (fun ls hl => ?_)
      refine lv_aload_n hx hb dL_acts_333 rfl (lv_at hl 3 rfl) ?_
      refine lv_iload hx hb dL_acts_334 (lv_at hl 0 rfl) ?_
      refine lv_iconst (v := (nI 5)) hx hb dL_acts_336 (by decide) ?_
      refine call_w (wr := [(xh, .inr (0, [.ref xhc, .int (nI st), .int (nI nx)])), (xhc, .inl (tq.1, 7365, .inl hc)), (xt, .inr (6, [.ref xtc, .int (nI tl)])), (xtc, .inl (tq.1, 100, .inl tx)), (xw, .inr (3, [.ref xwe, .int wl])), (xwe, .inl (tq.1, 60, .inl wf))]) (va_runV (As := [.int (nI e_), .int (nI 5)]) (rest := []) ⟨hx, hb, hml, hown, hts⟩ (kX7_entry ln dg tq (x0 := x0) (xl := xl) (xh := xh) (xt := xt) (xp := xp) (xo := xo) (xu := xu) (xw := xw) (xlc := xlc) (c := c) (s := s) (hF := hF) (xus := xus) (uf := uf) (x := (nI e_)) (w := (nI 5)) H.size) (cwV 2 hts gL_acts_X7_entry rfl rfl rfl hdX7_entry ⟨Nat.le_of_ble_eq_true rfl, Nat.le_of_ble_eq_true rfl⟩) (preVB hK hN hP hD [0, 1, 2, 7, 8] rfl rfl rfl 0 rfl rfl [.int (nI e_), .int (nI 5)]) rfl rfl hl.1 rfl (lv_room (Nat.le_of_ble_eq_true rfl)) dL_acts_337 ⟨Nat.le_refl _, Nat.le_refl _⟩) hP hD hS hA [0, 1, 2, 7, 8] [3, 4, 5, 6, 9, 10] rfl rfl (by decide) (by decide) (fun r337 u337 H locs hw337 hP hD hS => ?_)
      obtain ⟨uf2337, rfl⟩ : ∃ z, z = u337 := ⟨_, rfl⟩
      have hP : va_P dg vwCl [(xh, .inr (0, [.ref xhc, .int (nI st), .int (nI nx)])), (xhc, .inl (tq.1, 7365, .inl hc)), (xt, .inr (6, [.ref xtc, .int (nI tl)])), (xtc, .inl (tq.1, 100, .inl tx)), (xw, .inr (3, [.ref xwe, .int wl])), (xwe, .inl (tq.1, 60, .inl wf)), (x0, .inr (7, [.ref xl, .ref xh, .ref xt, .ref xp, .ref xo, .ref xu, .ref xw])), (xl, .inr (1, [.ref xlc])), (xlc, .inl (tq.1, 1473, .inl c)), (xu, .inr (5, [.ref xus])), (xus, .inl (tq.1, 6, .inl uf2337))] H := hP
      have hD : va_D AA [(xh, .inr (0, [.ref xhc, .int (nI st), .int (nI nx)])), (xhc, .inl (tq.1, 7365, .inl hc)), (xt, .inr (6, [.ref xtc, .int (nI tl)])), (xtc, .inl (tq.1, 100, .inl tx)), (xw, .inr (3, [.ref xwe, .int wl])), (xwe, .inl (tq.1, 60, .inl wf)), (x0, .inr (7, [.ref xl, .ref xh, .ref xt, .ref xp, .ref xo, .ref xu, .ref xw])), (xl, .inr (1, [.ref xlc])), (xlc, .inl (tq.1, 1473, .inl c)), (xu, .inr (5, [.ref xus])), (xus, .inl (tq.1, 6, .inl uf2337))] := hD
      subst hw337
      refine r_top (show (etR s (nI e_) (nI 5)) = (me s e_ 5) from (et_ (by omega) (by omega) (by omega))) ?_
      refine lv_istore (lv' := [(12, .int (me s e_ 5)), (11, .int (nI e_)), (3, .int (nI (nE s))), (2, .int (nI z)), (0, .ref x0), (1, .int (nI y))]) hx hb dL_acts_340 hl (by decide) rfl (fun ls hl => ?_)
      refine lv_aload_n hx hb dL_acts_342 rfl (lv_at hl 4 rfl) ?_
      refine lv_iload hx hb dL_acts_343 (lv_at hl 1 rfl) ?_
      refine lv_iconst (v := (nI 3)) hx hb dL_acts_345 (by decide) ?_
      refine call_w (wr := [(xh, .inr (0, [.ref xhc, .int (nI st), .int (nI nx)])), (xhc, .inl (tq.1, 7365, .inl hc)), (xt, .inr (6, [.ref xtc, .int (nI tl)])), (xtc, .inl (tq.1, 100, .inl tx)), (xw, .inr (3, [.ref xwe, .int wl])), (xwe, .inl (tq.1, 60, .inl wf))]) (va_runV (As := [.int (nI e_), .int (nI 3)]) (rest := []) ⟨hx, hb, hml, hown, hts⟩ (kX7_entry ln dg tq (x0 := x0) (xl := xl) (xh := xh) (xt := xt) (xp := xp) (xo := xo) (xu := xu) (xw := xw) (xlc := xlc) (c := c) (s := s) (hF := hF) (xus := xus) (uf := uf2337) (x := (nI e_)) (w := (nI 3)) H.size) (cwV 2 hts gL_acts_X7_entry rfl rfl rfl hdX7_entry ⟨Nat.le_of_ble_eq_true rfl, Nat.le_of_ble_eq_true rfl⟩) (preVB hK hN hP hD [6, 7, 8, 9, 10] rfl rfl rfl 6 rfl rfl [.int (nI e_), .int (nI 3)]) rfl rfl hl.1 rfl (lv_room (Nat.le_of_ble_eq_true rfl)) dL_acts_346 ⟨Nat.le_refl _, Nat.le_refl _⟩) hP hD hS hA [6, 7, 8, 9, 10] [0, 1, 2, 3, 4, 5] rfl rfl (by decide) (by decide) (fun r346 u346 H locs hw346 hP hD hS => ?_)
      obtain ⟨uf2346, rfl⟩ : ∃ z, z = u346 := ⟨_, rfl⟩
      have hP : va_P dg vwCl [(xh, .inr (0, [.ref xhc, .int (nI st), .int (nI nx)])), (xhc, .inl (tq.1, 7365, .inl hc)), (xt, .inr (6, [.ref xtc, .int (nI tl)])), (xtc, .inl (tq.1, 100, .inl tx)), (xw, .inr (3, [.ref xwe, .int wl])), (xwe, .inl (tq.1, 60, .inl wf)), (x0, .inr (7, [.ref xl, .ref xh, .ref xt, .ref xp, .ref xo, .ref xu, .ref xw])), (xl, .inr (1, [.ref xlc])), (xlc, .inl (tq.1, 1473, .inl c)), (xu, .inr (5, [.ref xus])), (xus, .inl (tq.1, 6, .inl uf2346))] H := hP
      have hD : va_D AA [(xh, .inr (0, [.ref xhc, .int (nI st), .int (nI nx)])), (xhc, .inl (tq.1, 7365, .inl hc)), (xt, .inr (6, [.ref xtc, .int (nI tl)])), (xtc, .inl (tq.1, 100, .inl tx)), (xw, .inr (3, [.ref xwe, .int wl])), (xwe, .inl (tq.1, 60, .inl wf)), (x0, .inr (7, [.ref xl, .ref xh, .ref xt, .ref xp, .ref xo, .ref xu, .ref xw])), (xl, .inr (1, [.ref xlc])), (xlc, .inl (tq.1, 1473, .inl c)), (xu, .inr (5, [.ref xus])), (xus, .inl (tq.1, 6, .inl uf2346))] := hD
      subst hw346
      refine r_top (show (etR s (nI e_) (nI 3)) = (me s e_ 4) from (et_ (by omega) (by omega) (by omega))) ?_
      refine lv_istore (lv' := [(13, .int (me s e_ 4)), (12, .int (me s e_ 5)), (11, .int (nI e_)), (3, .int (nI (nE s))), (2, .int (nI z)), (0, .ref x0), (1, .int (nI y))]) hx hb dL_acts_349 hl (by decide) rfl (fun ls hl => ?_)
      obtain ⟨ak_, hak1, hak2, hakz⟩ : ∃ a, 1 ≤ a ∧ a ≤ 999 ∧ 1 + z / 64 % 500 = a := ⟨_, by omega, by omega, rfl⟩
      refine lv_iconst (v := (nI 1)) hx hb dL_acts_351 (by decide) ?_
      refine lv_iload_n hx hb dL_acts_352 rfl (lv_at hl 4 rfl) ?_
      refine lv_bipush (v := (nI 64)) hx hb dL_acts_353 (by decide) ?_
      refine r_idiv_n hx hb (by omega) (by omega) (by omega) dL_acts_355 ?_
      refine lv_sipush (v := (nI 500)) hx hb dL_acts_356 (by decide) ?_
      refine r_irem_n hx hb (by omega) (by omega) (by omega) dL_acts_359 ?_
      refine r_iadd_n hx hb dL_acts_360 ?_
      refine r_top (show (nI (1 + ((z / 64) % 500))) = (nI ak_) from congrArg nI hakz) ?_
      refine lv_istore (lv' := [(14, .int (nI ak_)), (13, .int (me s e_ 4)), (12, .int (me s e_ 5)), (11, .int (nI e_)), (3, .int (nI (nE s))), (2, .int (nI z)), (0, .ref x0), (1, .int (nI y))]) hx hb dL_acts_361 hl (by decide) rfl (fun ls hl => ?_)
      refine lv_aload_n hx hb dL_acts_363 rfl (lv_at hl 6 rfl) ?_
      refine lv_iload hx hb dL_acts_364 (lv_at hl 3 rfl) ?_
      refine lv_iload hx hb dL_acts_366 (lv_at hl 0 rfl) ?_
      refine call_w (wr := [(xt, .inr (6, [.ref xtc, .int (nI tl)])), (xtc, .inl (tq.1, 100, .inl tx)), (xw, .inr (3, [.ref xwe, .int wl])), (xwe, .inl (tq.1, 60, .inl wf))]) (va_runV (As := [.int (nI e_), .int (nI ak_)]) (rest := []) ⟨hx, hb, hml, hown, hts⟩ (kX7_forge ln dg tq (x0 := x0) (xl := xl) (xh := xh) (xt := xt) (xp := xp) (xo := xo) (xu := xu) (xw := xw) (xlc := xlc) (c := c) (s := s) (hF := hF) (xhc := xhc) (st := st) (nx := nx) (hc := hc) (hst := (by omega)) (hnx := (by omega)) (xus := xus) (uf := uf2346) (x := (nI e_)) (a := (nI ak_)) H.size) (cwV 2 hts gL_acts_X7_forge rfl rfl rfl hdX7_forge ⟨Nat.le_of_ble_eq_true rfl, Nat.le_of_ble_eq_true rfl⟩) (preVB hK hN hP hD [6, 7, 8, 0, 1, 9, 10] rfl rfl rfl 6 rfl rfl [.int (nI e_), .int (nI ak_)]) rfl rfl hl.1 rfl (lv_room (Nat.le_of_ble_eq_true rfl)) dL_acts_368 ⟨Nat.le_refl _, Nat.le_refl _⟩) hP hD hS hA [6, 7, 8, 0, 1, 9, 10] [2, 3, 4, 5] rfl rfl (by decide) (by decide) (fun r368 u368 H locs hw368 hP hD hS => ?_)
      obtain ⟨cw368, hc2368, st2368, nx2368, uf2368⟩ := u368
      have hP : va_P dg vwCl [(xt, .inr (6, [.ref xtc, .int (nI tl)])), (xtc, .inl (tq.1, 100, .inl tx)), (xw, .inr (3, [.ref xwe, .int wl])), (xwe, .inl (tq.1, 60, .inl wf)), (x0, .inr (7, [.ref xl, .ref xh, .ref xt, .ref xp, .ref xo, .ref xu, .ref xw])), (xl, .inr (1, [.ref xlc])), (xlc, .inl (tq.1, 1473, .inl cw368)), (xh, .inr (0, [.ref xhc, .int (nI st2368), .int (nI nx2368)])), (xhc, .inl (tq.1, 7365, .inl hc2368)), (xu, .inr (5, [.ref xus])), (xus, .inl (tq.1, 6, .inl uf2368))] H := hP
      have hD : va_D AA [(xt, .inr (6, [.ref xtc, .int (nI tl)])), (xtc, .inl (tq.1, 100, .inl tx)), (xw, .inr (3, [.ref xwe, .int wl])), (xwe, .inl (tq.1, 60, .inl wf)), (x0, .inr (7, [.ref xl, .ref xh, .ref xt, .ref xp, .ref xo, .ref xu, .ref xw])), (xl, .inr (1, [.ref xlc])), (xlc, .inl (tq.1, 1473, .inl cw368)), (xh, .inr (0, [.ref xhc, .int (nI st2368), .int (nI nx2368)])), (xhc, .inl (tq.1, 7365, .inl hc2368)), (xu, .inr (5, [.ref xus])), (xus, .inl (tq.1, 6, .inl uf2368))] := hD
      obtain ⟨hr368, hw368⟩ := hw368
      subst hr368
      obtain ⟨tv_, htv_⟩ : ∃ x : Int32, x = fgR s (nI e_) (nI ak_) := ⟨_, rfl⟩
      obtain ⟨s1, hL1, hE1, h51, hy1, hno1⟩ := A_fg hL he0 he_ hak1 hak2 htv_ hw368
      obtain ⟨hF1, hX1, hst1, hnx1⟩ := id hL1
      obtain ⟨hR1, hW1, -, -⟩ := id hF1
      have hn601 := hW1.n60
      have hn11 := hW1.n1
      have hb101 := hW1.b10
      have hs81 := hW1.s8
      have hhn1 := hW1.hn
      refine r_top (show (fgR s (nI e_) (nI ak_)) = tv_ from htv_.symm) ?_
      refine lv_istore (lv' := [(15, .int tv_), (14, .int (nI ak_)), (13, .int (me s e_ 4)), (12, .int (me s e_ 5)), (11, .int (nI e_)), (3, .int (nI (nE s))), (2, .int (nI z)), (0, .ref x0), (1, .int (nI y))]) hx hb dL_acts_371 hl (by decide) rfl (fun ls hl => ?_)
      refine lv_aload_n hx hb dL_acts_373 rfl (lv_at hl 7 rfl) ?_
      refine lv_iload hx hb dL_acts_374 (lv_at hl 4 rfl) ?_
      refine lv_iconst (v := (nI 5)) hx hb dL_acts_376 (by decide) ?_
      refine call_w (wr := [(xt, .inr (6, [.ref xtc, .int (nI tl)])), (xtc, .inl (tq.1, 100, .inl tx)), (xw, .inr (3, [.ref xwe, .int wl])), (xwe, .inl (tq.1, 60, .inl wf)), (xh, .inr (0, [.ref xhc, .int (nI st2368), .int (nI nx2368)])), (xhc, .inl (tq.1, 7365, .inl hc2368))]) (va_runV (As := [.int (nI e_), .int (nI 5)]) (rest := []) ⟨hx, hb, hml, hown, hts⟩ (kX7_entry ln dg tq (x0 := x0) (xl := xl) (xh := xh) (xt := xt) (xp := xp) (xo := xo) (xu := xu) (xw := xw) (xlc := xlc) (c := cw368) (s := s1) (hF := hF1) (xus := xus) (uf := uf2368) (x := (nI e_)) (w := (nI 5)) H.size) (cwV 2 hts gL_acts_X7_entry rfl rfl rfl hdX7_entry ⟨Nat.le_of_ble_eq_true rfl, Nat.le_of_ble_eq_true rfl⟩) (preVB hK hN hP hD [4, 5, 6, 9, 10] rfl rfl rfl 4 rfl rfl [.int (nI e_), .int (nI 5)]) rfl rfl hl.1 rfl (lv_room (Nat.le_of_ble_eq_true rfl)) dL_acts_377 ⟨Nat.le_refl _, Nat.le_refl _⟩) hP hD hS hA [4, 5, 6, 9, 10] [0, 1, 2, 3, 7, 8] rfl rfl (by decide) (by decide) (fun r377 u377 H locs hw377 hP hD hS => ?_)
      obtain ⟨uf2377, rfl⟩ : ∃ z, z = u377 := ⟨_, rfl⟩
      have hP : va_P dg vwCl [(xt, .inr (6, [.ref xtc, .int (nI tl)])), (xtc, .inl (tq.1, 100, .inl tx)), (xw, .inr (3, [.ref xwe, .int wl])), (xwe, .inl (tq.1, 60, .inl wf)), (xh, .inr (0, [.ref xhc, .int (nI st2368), .int (nI nx2368)])), (xhc, .inl (tq.1, 7365, .inl hc2368)), (x0, .inr (7, [.ref xl, .ref xh, .ref xt, .ref xp, .ref xo, .ref xu, .ref xw])), (xl, .inr (1, [.ref xlc])), (xlc, .inl (tq.1, 1473, .inl cw368)), (xu, .inr (5, [.ref xus])), (xus, .inl (tq.1, 6, .inl uf2377))] H := hP
      have hD : va_D AA [(xt, .inr (6, [.ref xtc, .int (nI tl)])), (xtc, .inl (tq.1, 100, .inl tx)), (xw, .inr (3, [.ref xwe, .int wl])), (xwe, .inl (tq.1, 60, .inl wf)), (xh, .inr (0, [.ref xhc, .int (nI st2368), .int (nI nx2368)])), (xhc, .inl (tq.1, 7365, .inl hc2368)), (x0, .inr (7, [.ref xl, .ref xh, .ref xt, .ref xp, .ref xo, .ref xu, .ref xw])), (xl, .inr (1, [.ref xlc])), (xlc, .inl (tq.1, 1473, .inl cw368)), (xu, .inr (5, [.ref xus])), (xus, .inl (tq.1, 6, .inl uf2377))] := hD
      subst hw377
      refine r_top (show (etR s1 (nI e_) (nI 5)) = (me s1 e_ 5) from (et_ (by omega) (by omega) (by omega))) ?_
      refine r_top (show (me s1 e_ 5) = (me s e_ 5) from h51) ?_
      refine lv_iload hx hb dL_acts_380 (lv_at hl 3 rfl) ?_
      refine lv_icmp_ne (tgt := 427) hx hb dL_acts_382 (by decide) (fun c382 => False.elim (by exact c382 rfl)) (fun c382 => ?_)
      refine lv_iload hx hb dL_acts_385 (lv_at hl 0 rfl) ?_
      refine lv_iload hx hb dL_acts_387 (lv_at hl 2 rfl) ?_
      refine lv_icmp_ne (tgt := 404) hx hb dL_acts_389 (by decide) (fun c389 => ?_) (fun c389 => ?_)
      · skip
        obtain ⟨q1, q2⟩ := hno1 c389
        refine lv_iload hx hb dL_acts_404 (lv_at hl 0 rfl) ?_
        refine lv_ldc hx hb hown k64 dL_acts_406 ?_
        refine r_icmp_ne (tgt := 427) hx hb rfl (by decide : ((-100002) : Int32).toInt = (-100002)) dL_acts_408 (by decide) (fun c408 => False.elim (by omega)) (fun c408 => ?_)
        refine lv_aload_n hx hb dL_acts_411 rfl (lv_at hl 7 rfl) ?_
        refine lv_iload hx hb dL_acts_412 (lv_at hl 4 rfl) ?_
        refine lv_iconst (v := (nI 3)) hx hb dL_acts_414 (by decide) ?_
        refine call_w (wr := [(xt, .inr (6, [.ref xtc, .int (nI tl)])), (xtc, .inl (tq.1, 100, .inl tx)), (xw, .inr (3, [.ref xwe, .int wl])), (xwe, .inl (tq.1, 60, .inl wf)), (xh, .inr (0, [.ref xhc, .int (nI st2368), .int (nI nx2368)])), (xhc, .inl (tq.1, 7365, .inl hc2368))]) (va_runV (As := [.int (nI e_), .int (nI 3)]) (rest := []) ⟨hx, hb, hml, hown, hts⟩ (kX7_entry ln dg tq (x0 := x0) (xl := xl) (xh := xh) (xt := xt) (xp := xp) (xo := xo) (xu := xu) (xw := xw) (xlc := xlc) (c := cw368) (s := s1) (hF := hF1) (xus := xus) (uf := uf2377) (x := (nI e_)) (w := (nI 3)) H.size) (cwV 2 hts gL_acts_X7_entry rfl rfl rfl hdX7_entry ⟨Nat.le_of_ble_eq_true rfl, Nat.le_of_ble_eq_true rfl⟩) (preVB hK hN hP hD [6, 7, 8, 9, 10] rfl rfl rfl 6 rfl rfl [.int (nI e_), .int (nI 3)]) rfl rfl hl.1 rfl (lv_room (Nat.le_of_ble_eq_true rfl)) dL_acts_415 ⟨Nat.le_refl _, Nat.le_refl _⟩) hP hD hS hA [6, 7, 8, 9, 10] [0, 1, 2, 3, 4, 5] rfl rfl (by decide) (by decide) (fun r415 u415 H locs hw415 hP hD hS => ?_)
        obtain ⟨uf2415, rfl⟩ : ∃ z, z = u415 := ⟨_, rfl⟩
        have hP : va_P dg vwCl [(xt, .inr (6, [.ref xtc, .int (nI tl)])), (xtc, .inl (tq.1, 100, .inl tx)), (xw, .inr (3, [.ref xwe, .int wl])), (xwe, .inl (tq.1, 60, .inl wf)), (xh, .inr (0, [.ref xhc, .int (nI st2368), .int (nI nx2368)])), (xhc, .inl (tq.1, 7365, .inl hc2368)), (x0, .inr (7, [.ref xl, .ref xh, .ref xt, .ref xp, .ref xo, .ref xu, .ref xw])), (xl, .inr (1, [.ref xlc])), (xlc, .inl (tq.1, 1473, .inl cw368)), (xu, .inr (5, [.ref xus])), (xus, .inl (tq.1, 6, .inl uf2415))] H := hP
        have hD : va_D AA [(xt, .inr (6, [.ref xtc, .int (nI tl)])), (xtc, .inl (tq.1, 100, .inl tx)), (xw, .inr (3, [.ref xwe, .int wl])), (xwe, .inl (tq.1, 60, .inl wf)), (xh, .inr (0, [.ref xhc, .int (nI st2368), .int (nI nx2368)])), (xhc, .inl (tq.1, 7365, .inl hc2368)), (x0, .inr (7, [.ref xl, .ref xh, .ref xt, .ref xp, .ref xo, .ref xu, .ref xw])), (xl, .inr (1, [.ref xlc])), (xlc, .inl (tq.1, 1473, .inl cw368)), (xu, .inr (5, [.ref xus])), (xus, .inl (tq.1, 6, .inl uf2415))] := hD
        subst hw415
        refine r_top (show (etR s1 (nI e_) (nI 3)) = (me s1 e_ 4) from (et_ (by omega) (by omega) (by omega))) ?_
        refine r_top (show (me s1 e_ 4) = (me s e_ 4) from q2) ?_
        refine lv_iload hx hb dL_acts_418 (lv_at hl 2 rfl) ?_
        refine lv_icmp_ne (tgt := 427) hx hb dL_acts_420 (by decide) (fun c420 => False.elim (by exact c420 rfl)) (fun c420 => ?_)
        refine lv_iconst (v := (nI 1)) hx hb dL_acts_423 (by decide) ?_
        refine lv_goto (tgt := 428) hx hb dL_acts_424 (by decide) ?_
        exact hret (nI 1) (cw368, hc2368, st2368, nx2368, uf2415, wl, wf) H locs _ ls (show (nI 1) = (nI 1) ∧ (∃ s2, LX s2 cw368 st2368 nx2368) from (⟨rfl, s1, hL1⟩)) rfl (hP.sub [6, 7, 8, 4, 5, 0, 1, 9, 10, 2, 3] rfl) (hD.sub [6, 7, 8, 4, 5, 0, 1, 9, 10, 2, 3] (by decide) rfl) hS dL_acts_428
      · skip
        refine lv_aload_n hx hb dL_acts_392 rfl (lv_at hl 7 rfl) ?_
        refine lv_iload hx hb dL_acts_393 (lv_at hl 4 rfl) ?_
        refine lv_iconst (v := (nI 3)) hx hb dL_acts_395 (by decide) ?_
        refine call_w (wr := [(xt, .inr (6, [.ref xtc, .int (nI tl)])), (xtc, .inl (tq.1, 100, .inl tx)), (xw, .inr (3, [.ref xwe, .int wl])), (xwe, .inl (tq.1, 60, .inl wf)), (xh, .inr (0, [.ref xhc, .int (nI st2368), .int (nI nx2368)])), (xhc, .inl (tq.1, 7365, .inl hc2368))]) (va_runV (As := [.int (nI e_), .int (nI 3)]) (rest := []) ⟨hx, hb, hml, hown, hts⟩ (kX7_entry ln dg tq (x0 := x0) (xl := xl) (xh := xh) (xt := xt) (xp := xp) (xo := xo) (xu := xu) (xw := xw) (xlc := xlc) (c := cw368) (s := s1) (hF := hF1) (xus := xus) (uf := uf2377) (x := (nI e_)) (w := (nI 3)) H.size) (cwV 2 hts gL_acts_X7_entry rfl rfl rfl hdX7_entry ⟨Nat.le_of_ble_eq_true rfl, Nat.le_of_ble_eq_true rfl⟩) (preVB hK hN hP hD [6, 7, 8, 9, 10] rfl rfl rfl 6 rfl rfl [.int (nI e_), .int (nI 3)]) rfl rfl hl.1 rfl (lv_room (Nat.le_of_ble_eq_true rfl)) dL_acts_396 ⟨Nat.le_refl _, Nat.le_refl _⟩) hP hD hS hA [6, 7, 8, 9, 10] [0, 1, 2, 3, 4, 5] rfl rfl (by decide) (by decide) (fun r396 u396 H locs hw396 hP hD hS => ?_)
        obtain ⟨uf2396, rfl⟩ : ∃ z, z = u396 := ⟨_, rfl⟩
        have hP : va_P dg vwCl [(xt, .inr (6, [.ref xtc, .int (nI tl)])), (xtc, .inl (tq.1, 100, .inl tx)), (xw, .inr (3, [.ref xwe, .int wl])), (xwe, .inl (tq.1, 60, .inl wf)), (xh, .inr (0, [.ref xhc, .int (nI st2368), .int (nI nx2368)])), (xhc, .inl (tq.1, 7365, .inl hc2368)), (x0, .inr (7, [.ref xl, .ref xh, .ref xt, .ref xp, .ref xo, .ref xu, .ref xw])), (xl, .inr (1, [.ref xlc])), (xlc, .inl (tq.1, 1473, .inl cw368)), (xu, .inr (5, [.ref xus])), (xus, .inl (tq.1, 6, .inl uf2396))] H := hP
        have hD : va_D AA [(xt, .inr (6, [.ref xtc, .int (nI tl)])), (xtc, .inl (tq.1, 100, .inl tx)), (xw, .inr (3, [.ref xwe, .int wl])), (xwe, .inl (tq.1, 60, .inl wf)), (xh, .inr (0, [.ref xhc, .int (nI st2368), .int (nI nx2368)])), (xhc, .inl (tq.1, 7365, .inl hc2368)), (x0, .inr (7, [.ref xl, .ref xh, .ref xt, .ref xp, .ref xo, .ref xu, .ref xw])), (xl, .inr (1, [.ref xlc])), (xlc, .inl (tq.1, 1473, .inl cw368)), (xu, .inr (5, [.ref xus])), (xus, .inl (tq.1, 6, .inl uf2396))] := hD
        subst hw396
        refine r_top (show (etR s1 (nI e_) (nI 3)) = (me s1 e_ 4) from (et_ (by omega) (by omega) (by omega))) ?_
        refine r_top (show (me s1 e_ 4) = (nI ak_) from hy1 c389) ?_
        refine lv_iload hx hb dL_acts_399 (lv_at hl 1 rfl) ?_
        refine r_icmp_eq (tgt := 423) hx hb (nI_tI (by omega)) (nI_tI (by omega)) dL_acts_401 (by decide) (fun c401 => ?_) (fun c401 => False.elim (by omega))
        refine lv_iconst (v := (nI 1)) hx hb dL_acts_423 (by decide) ?_
        refine lv_goto (tgt := 428) hx hb dL_acts_424 (by decide) ?_
        exact hret (nI 1) (cw368, hc2368, st2368, nx2368, uf2396, wl, wf) H locs _ ls (show (nI 1) = (nI 1) ∧ (∃ s2, LX s2 cw368 st2368 nx2368) from (⟨rfl, s1, hL1⟩)) rfl (hP.sub [6, 7, 8, 4, 5, 0, 1, 9, 10, 2, 3] rfl) (hD.sub [6, 7, 8, 4, 5, 0, 1, 9, 10, 2, 3] (by decide) rfl) hS dL_acts_428
    · skip
      refine lv_aload_n hx hb dL_acts_307 rfl (lv_at hl 2 rfl) ?_
      refine lv_iconst (v := (nI 0)) hx hb dL_acts_308 (by decide) ?_
      refine lv_iconst (v := (nI 5)) hx hb dL_acts_309 (by decide) ?_
      refine call_w (wr := [(xt, .inr (6, [.ref xtc, .int (nI tl)])), (xtc, .inl (tq.1, 100, .inl tx)), (xw, .inr (3, [.ref xwe, .int wl])), (xwe, .inl (tq.1, 60, .inl wf))]) (va_runV (As := [.int (nI 0), .int (nI 5)]) (rest := []) ⟨hx, hb, hml, hown, hts⟩ (kX7_forge ln dg tq (x0 := x0) (xl := xl) (xh := xh) (xt := xt) (xp := xp) (xo := xo) (xu := xu) (xw := xw) (xlc := xlc) (c := c) (s := s) (hF := hF) (xhc := xhc) (st := st) (nx := nx) (hc := hc) (hst := (by omega)) (hnx := (by omega)) (xus := xus) (uf := uf) (x := (nI 0)) (a := (nI 5)) H.size) (cwV 2 hts gL_acts_X7_forge rfl rfl rfl hdX7_forge ⟨Nat.le_of_ble_eq_true rfl, Nat.le_of_ble_eq_true rfl⟩) (preVB hK hN hP hD [0, 1, 2, 3, 4, 7, 8] rfl rfl rfl 0 rfl rfl [.int (nI 0), .int (nI 5)]) rfl rfl hl.1 rfl (lv_room (Nat.le_of_ble_eq_true rfl)) dL_acts_310 ⟨Nat.le_refl _, Nat.le_refl _⟩) hP hD hS hA [0, 1, 2, 3, 4, 7, 8] [5, 6, 9, 10] rfl rfl (by decide) (by decide) (fun r310 u310 H locs hw310 hP hD hS => ?_)
      obtain ⟨cw310, hc2310, st2310, nx2310, uf2310⟩ := u310
      have hP : va_P dg vwCl [(xt, .inr (6, [.ref xtc, .int (nI tl)])), (xtc, .inl (tq.1, 100, .inl tx)), (xw, .inr (3, [.ref xwe, .int wl])), (xwe, .inl (tq.1, 60, .inl wf)), (x0, .inr (7, [.ref xl, .ref xh, .ref xt, .ref xp, .ref xo, .ref xu, .ref xw])), (xl, .inr (1, [.ref xlc])), (xlc, .inl (tq.1, 1473, .inl cw310)), (xh, .inr (0, [.ref xhc, .int (nI st2310), .int (nI nx2310)])), (xhc, .inl (tq.1, 7365, .inl hc2310)), (xu, .inr (5, [.ref xus])), (xus, .inl (tq.1, 6, .inl uf2310))] H := hP
      have hD : va_D AA [(xt, .inr (6, [.ref xtc, .int (nI tl)])), (xtc, .inl (tq.1, 100, .inl tx)), (xw, .inr (3, [.ref xwe, .int wl])), (xwe, .inl (tq.1, 60, .inl wf)), (x0, .inr (7, [.ref xl, .ref xh, .ref xt, .ref xp, .ref xo, .ref xu, .ref xw])), (xl, .inr (1, [.ref xlc])), (xlc, .inl (tq.1, 1473, .inl cw310)), (xh, .inr (0, [.ref xhc, .int (nI st2310), .int (nI nx2310)])), (xhc, .inl (tq.1, 7365, .inl hc2310)), (xu, .inr (5, [.ref xus])), (xus, .inl (tq.1, 6, .inl uf2310))] := hD
      obtain ⟨hr310, hw310⟩ := hw310
      subst hr310
      obtain ⟨tv_, htv_⟩ : ∃ x : Int32, x = fgR s (nI 0) (nI 5) := ⟨_, rfl⟩
      obtain ⟨hL1, hrt⟩ := A_fg0 hL htv_ hw310
      refine r_top (show (fgR s (nI 0) (nI 5)) = tv_ from htv_.symm) ?_
      refine lv_ldc hx hb hown k69 dL_acts_313 ?_
      refine r_icmp_ne (tgt := 322) hx hb rfl (by decide : ((-100001) : Int32).toInt = (-100001)) dL_acts_315 (by decide) (fun c315 => False.elim (by omega)) (fun c315 => ?_)
      refine lv_iconst (v := (nI 1)) hx hb dL_acts_318 (by decide) ?_
      refine lv_goto (tgt := 323) hx hb dL_acts_319 (by decide) ?_
      exact hret (nI 1) (cw310, hc2310, st2310, nx2310, uf2310, wl, wf) H locs _ ls (show (nI 1) = (nI 1) ∧ (∃ s2, LX s2 cw310 st2310 nx2310) from (⟨rfl, s, hL1⟩)) rfl (hP.sub [4, 5, 6, 7, 8, 0, 1, 9, 10, 2, 3] rfl) (hD.sub [4, 5, 6, 7, 8, 0, 1, 9, 10, 2, 3] (by decide) rfl) hS dL_acts_323
  · skip
    refine lv_tableIn (off := 414) (tgt := 429) hx hb dL_acts_15 (by decide) (by decide) rfl (by decide) ?_
    refine lv_aload_n hx hb dL_acts_429 rfl (lv_at hl 2 rfl) ?_
    refine lv_bipush (v := (nI 9)) hx hb dL_acts_430 (by decide) ?_
    refine call_x (va_runV (As := [.int (nI 9)]) (rest := []) ⟨hx, hb, hml, hown, hts⟩ (kX7_count ln dg tq (x0 := x0) (xl := xl) (xh := xh) (xt := xt) (xp := xp) (xo := xo) (xu := xu) (xw := xw) (xlc := xlc) (c := c) (s := s) (hF := hF) (xhc := xhc) (st := st) (nx := nx) (hc := hc) (xtc := xtc) (tl := tl) (tx := tx) (x := (nI 9)) H.size) (cwV 1 hts gL_acts_X7_count rfl rfl rfl hdX7_count ⟨Nat.le_of_ble_eq_true rfl, Nat.le_of_ble_eq_true rfl⟩) (preVR hK hN hP [0, 1, 2, 3, 4, 5, 6] rfl 0 rfl rfl [.int (nI 9)]) rfl rfl hl.1 rfl (lv_room (Nat.le_of_ble_eq_true rfl)) dL_acts_432 ⟨Nat.le_refl _, Nat.le_refl _⟩) hP hS hA (fun H locs hP hS => ?_)
    refine r_top (show (ctR s st tl (nI 9)) = (nI (cntF (fun k => !fitE s k) (nE s))) from ct_ (by omega)) ?_
    refine lv_istore (lv' := [(16, .int (nI (cntF (fun k => !fitE s k) (nE s)))), (3, .int (nI (nE s))), (2, .int (nI z)), (0, .ref x0), (1, .int (nI y))]) hx hb dL_acts_435 hl (by decide) rfl (fun ls hl => ?_)
    obtain ⟨e_, he_, hez⟩ : ∃ e, e < nE s ∧ z % nE s = e := ⟨_, Nat.mod_lt _ (by omega), rfl⟩
    refine lv_iload_n hx hb dL_acts_437 rfl (lv_at hl 2 rfl) ?_
    refine lv_iload_n hx hb dL_acts_438 rfl (lv_at hl 1 rfl) ?_
    refine r_irem_n hx hb (by omega) (by omega) (by omega) dL_acts_439 ?_
    refine r_top (show (nI (z % (nE s))) = (nI e_) from congrArg nI hez) ?_
    refine lv_istore (lv' := [(17, .int (nI e_)), (16, .int (nI (cntF (fun k => !fitE s k) (nE s)))), (3, .int (nI (nE s))), (2, .int (nI z)), (0, .ref x0), (1, .int (nI y))]) hx hb dL_acts_440 hl (by decide) rfl (fun ls hl => ?_)
    refine lv_aload_n hx hb dL_acts_442 rfl (lv_at hl 4 rfl) ?_
    refine lv_iload hx hb dL_acts_443 (lv_at hl 0 rfl) ?_
    refine call_w (wr := [(xt, .inr (6, [.ref xtc, .int (nI tl)])), (xtc, .inl (tq.1, 100, .inl tx)), (xu, .inr (5, [.ref xus])), (xus, .inl (tq.1, 6, .inl uf)), (xw, .inr (3, [.ref xwe, .int wl])), (xwe, .inl (tq.1, 60, .inl wf))]) (va_runV (As := [.int (nI e_)]) (rest := []) ⟨hx, hb, hml, hown, hts⟩ (kX7_relink ln dg tq (x0 := x0) (xl := xl) (xh := xh) (xt := xt) (xp := xp) (xo := xo) (xu := xu) (xw := xw) (xlc := xlc) (c := c) (s := s) (hF := hF) (xhc := xhc) (st := st) (nx := nx) (hc := hc) (hst := (by omega)) (hnx := (by omega)) (x := (nI e_)) H.size) (cwV 1 hts gL_acts_X7_relink rfl rfl rfl hdX7_relink ⟨Nat.le_of_ble_eq_true rfl, Nat.le_of_ble_eq_true rfl⟩) (preVB hK hN hP hD [0, 1, 2, 3, 4] rfl rfl rfl 0 rfl rfl [.int (nI e_)]) rfl rfl hl.1 rfl (lv_room (Nat.le_of_ble_eq_true rfl)) dL_acts_445 ⟨Nat.le_refl _, Nat.le_refl _⟩) hP hD hS hA [0, 1, 2, 3, 4] [5, 6, 7, 8, 9, 10] rfl rfl (by decide) (by decide) (fun r445 u445 H locs hw445 hP hD hS => ?_)
    obtain ⟨cw445, hc2445, st2445, nx2445⟩ := u445
    have hP : va_P dg vwCl [(xt, .inr (6, [.ref xtc, .int (nI tl)])), (xtc, .inl (tq.1, 100, .inl tx)), (xu, .inr (5, [.ref xus])), (xus, .inl (tq.1, 6, .inl uf)), (xw, .inr (3, [.ref xwe, .int wl])), (xwe, .inl (tq.1, 60, .inl wf)), (x0, .inr (7, [.ref xl, .ref xh, .ref xt, .ref xp, .ref xo, .ref xu, .ref xw])), (xl, .inr (1, [.ref xlc])), (xlc, .inl (tq.1, 1473, .inl cw445)), (xh, .inr (0, [.ref xhc, .int (nI st2445), .int (nI nx2445)])), (xhc, .inl (tq.1, 7365, .inl hc2445))] H := hP
    have hD : va_D AA [(xt, .inr (6, [.ref xtc, .int (nI tl)])), (xtc, .inl (tq.1, 100, .inl tx)), (xu, .inr (5, [.ref xus])), (xus, .inl (tq.1, 6, .inl uf)), (xw, .inr (3, [.ref xwe, .int wl])), (xwe, .inl (tq.1, 60, .inl wf)), (x0, .inr (7, [.ref xl, .ref xh, .ref xt, .ref xp, .ref xo, .ref xu, .ref xw])), (xl, .inr (1, [.ref xlc])), (xlc, .inl (tq.1, 1473, .inl cw445)), (xh, .inr (0, [.ref xhc, .int (nI st2445), .int (nI nx2445)])), (xhc, .inl (tq.1, 7365, .inl hc2445))] := hD
    obtain ⟨hr445, hw445⟩ := hw445
    subst hr445
    obtain ⟨tv_, htv_⟩ : ∃ x : Int32, x = rkR s (nI e_) := ⟨_, rfl⟩
    obtain ⟨s1, m_, hL1, hE1, hm1, hm2, hm3, hm4, hm5⟩ := A_rk hL he_ htv_ hw445
    obtain ⟨hF1, hX1, hst1, hnx1⟩ := id hL1
    obtain ⟨hR1, hW1, -, -⟩ := id hF1
    have hn601 := hW1.n60
    have hn11 := hW1.n1
    have hb101 := hW1.b10
    have hs81 := hW1.s8
    have hhn1 := hW1.hn
    have hk1 := cntF_le (fun k => !fitE s k) (nE s)
    have hk2 := cntF_le (fun k => !fitE s1 k) (nE s1)
    refine r_top (show (rkR s (nI e_)) = tv_ from htv_.symm) ?_
    refine r_top (show tv_ = (nI m_) from hm1) ?_
    refine lv_istore (lv' := [(18, .int (nI m_)), (17, .int (nI e_)), (16, .int (nI (cntF (fun k => !fitE s k) (nE s)))), (3, .int (nI (nE s))), (2, .int (nI z)), (0, .ref x0), (1, .int (nI y))]) hx hb dL_acts_448 hl (by decide) rfl (fun ls hl => ?_)
    refine lv_iload hx hb dL_acts_450 (lv_at hl 0 rfl) ?_
    refine r_if_lt (tgt := 501) hx hb (nI_tI (by omega)) dL_acts_452 (by decide) (fun c452 => False.elim (by omega)) (fun c452 => ?_)
    refine lv_iload hx hb dL_acts_455 (lv_at hl 0 rfl) ?_
    refine lv_iload_n hx hb dL_acts_457 rfl (lv_at hl 3 rfl) ?_
    refine r_icmp_gt (tgt := 501) hx hb (nI_tI (by omega)) (nI_tI (by omega)) dL_acts_458 (by decide) (fun c458 => False.elim (by omega)) (fun c458 => ?_)
    refine lv_aload_n hx hb dL_acts_461 rfl (lv_at hl 5 rfl) ?_
    refine lv_iload hx hb dL_acts_462 (lv_at hl 1 rfl) ?_
    refine lv_bipush (v := (nI 6)) hx hb dL_acts_464 (by decide) ?_
    refine call_w (wr := [(xt, .inr (6, [.ref xtc, .int (nI tl)])), (xtc, .inl (tq.1, 100, .inl tx)), (xw, .inr (3, [.ref xwe, .int wl])), (xwe, .inl (tq.1, 60, .inl wf)), (xh, .inr (0, [.ref xhc, .int (nI st2445), .int (nI nx2445)])), (xhc, .inl (tq.1, 7365, .inl hc2445))]) (va_runV (As := [.int (nI e_), .int (nI 6)]) (rest := []) ⟨hx, hb, hml, hown, hts⟩ (kX7_entry ln dg tq (x0 := x0) (xl := xl) (xh := xh) (xt := xt) (xp := xp) (xo := xo) (xu := xu) (xw := xw) (xlc := xlc) (c := cw445) (s := s1) (hF := hF1) (xus := xus) (uf := uf) (x := (nI e_)) (w := (nI 6)) H.size) (cwV 2 hts gL_acts_X7_entry rfl rfl rfl hdX7_entry ⟨Nat.le_of_ble_eq_true rfl, Nat.le_of_ble_eq_true rfl⟩) (preVB hK hN hP hD [6, 7, 8, 2, 3] rfl rfl rfl 6 rfl rfl [.int (nI e_), .int (nI 6)]) rfl rfl hl.1 rfl (lv_room (Nat.le_of_ble_eq_true rfl)) dL_acts_466 ⟨Nat.le_refl _, Nat.le_refl _⟩) hP hD hS hA [6, 7, 8, 2, 3] [0, 1, 4, 5, 9, 10] rfl rfl (by decide) (by decide) (fun r466 u466 H locs hw466 hP hD hS => ?_)
    obtain ⟨uf2466, rfl⟩ : ∃ z, z = u466 := ⟨_, rfl⟩
    have hP : va_P dg vwCl [(xt, .inr (6, [.ref xtc, .int (nI tl)])), (xtc, .inl (tq.1, 100, .inl tx)), (xw, .inr (3, [.ref xwe, .int wl])), (xwe, .inl (tq.1, 60, .inl wf)), (xh, .inr (0, [.ref xhc, .int (nI st2445), .int (nI nx2445)])), (xhc, .inl (tq.1, 7365, .inl hc2445)), (x0, .inr (7, [.ref xl, .ref xh, .ref xt, .ref xp, .ref xo, .ref xu, .ref xw])), (xl, .inr (1, [.ref xlc])), (xlc, .inl (tq.1, 1473, .inl cw445)), (xu, .inr (5, [.ref xus])), (xus, .inl (tq.1, 6, .inl uf2466))] H := hP
    have hD : va_D AA [(xt, .inr (6, [.ref xtc, .int (nI tl)])), (xtc, .inl (tq.1, 100, .inl tx)), (xw, .inr (3, [.ref xwe, .int wl])), (xwe, .inl (tq.1, 60, .inl wf)), (xh, .inr (0, [.ref xhc, .int (nI st2445), .int (nI nx2445)])), (xhc, .inl (tq.1, 7365, .inl hc2445)), (x0, .inr (7, [.ref xl, .ref xh, .ref xt, .ref xp, .ref xo, .ref xu, .ref xw])), (xl, .inr (1, [.ref xlc])), (xlc, .inl (tq.1, 1473, .inl cw445)), (xu, .inr (5, [.ref xus])), (xus, .inl (tq.1, 6, .inl uf2466))] := hD
    subst hw466
    refine r_top (show (etR s1 (nI e_) (nI 6)) = (nI 1) from (et_ (by omega) (by omega) (by omega)).trans (et6 hm3)) ?_
    refine lv_iconst (v := (nI 1)) hx hb dL_acts_469 (by decide) ?_
    refine r_icmp_ne (tgt := 501) hx hb (nI_tI (by omega)) (nI_tI (by omega)) dL_acts_470 (by decide) (fun c470 => False.elim (by omega)) (fun c470 => ?_)
    refine lv_iload hx hb dL_acts_473 (lv_at hl 1 rfl) ?_
    refine r_if_gt (tgt := 487) hx hb (nI_tI (by omega)) dL_acts_475 (by decide) (fun c475 => ?_) (fun c475 => ?_)
    · skip
      refine lv_iload hx hb dL_acts_487 (lv_at hl 2 rfl) ?_
      refine r_if_gt (tgt := 497) hx hb (nI_tI (by omega)) dL_acts_489 (by decide) (fun c489 => ?_) (fun c489 => ?_)
      · skip
        refine lv_iconst (v := (nI 1)) hx hb dL_acts_497 (by decide) ?_
        refine lv_goto (tgt := 502) hx hb dL_acts_498 (by decide) ?_
        exact hret (nI 1) (cw445, hc2445, st2445, nx2445, uf2466, wl, wf) H locs _ ls (show (nI 1) = (nI 1) ∧ (∃ s2, LX s2 cw445 st2445 nx2445) from (⟨rfl, s1, hL1⟩)) rfl (hP.sub [6, 7, 8, 4, 5, 0, 1, 9, 10, 2, 3] rfl) (hD.sub [6, 7, 8, 4, 5, 0, 1, 9, 10, 2, 3] (by decide) rfl) hS dL_acts_502
      · skip
        refine lv_iload hx hb dL_acts_492 (lv_at hl 0 rfl) ?_
        refine r_if_ne (tgt := 501) hx hb (nI_tI (by omega)) dL_acts_494 (by decide) (fun c494 => False.elim (by have q := hm5 (by omega); omega)) (fun c494 => ?_)
        refine lv_iconst (v := (nI 1)) hx hb dL_acts_497 (by decide) ?_
        refine lv_goto (tgt := 502) hx hb dL_acts_498 (by decide) ?_
        exact hret (nI 1) (cw445, hc2445, st2445, nx2445, uf2466, wl, wf) H locs _ ls (show (nI 1) = (nI 1) ∧ (∃ s2, LX s2 cw445 st2445 nx2445) from (⟨rfl, s1, hL1⟩)) rfl (hP.sub [6, 7, 8, 4, 5, 0, 1, 9, 10, 2, 3] rfl) (hD.sub [6, 7, 8, 4, 5, 0, 1, 9, 10, 2, 3] (by decide) rfl) hS dL_acts_502
    · skip
      refine lv_aload_n hx hb dL_acts_478 rfl (lv_at hl 5 rfl) ?_
      refine lv_bipush (v := (nI 9)) hx hb dL_acts_479 (by decide) ?_
      refine call_x (va_runV (As := [.int (nI 9)]) (rest := []) ⟨hx, hb, hml, hown, hts⟩ (kX7_count ln dg tq (x0 := x0) (xl := xl) (xh := xh) (xt := xt) (xp := xp) (xo := xo) (xu := xu) (xw := xw) (xlc := xlc) (c := cw445) (s := s1) (hF := hF1) (xhc := xhc) (st := st2445) (nx := nx2445) (hc := hc2445) (xtc := xtc) (tl := tl) (tx := tx) (x := (nI 9)) H.size) (cwV 1 hts gL_acts_X7_count rfl rfl rfl hdX7_count ⟨Nat.le_of_ble_eq_true rfl, Nat.le_of_ble_eq_true rfl⟩) (preVR hK hN hP [6, 7, 8, 4, 5, 0, 1] rfl 6 rfl rfl [.int (nI 9)]) rfl rfl hl.1 rfl (lv_room (Nat.le_of_ble_eq_true rfl)) dL_acts_481 ⟨Nat.le_refl _, Nat.le_refl _⟩) hP hS hA (fun H locs hP hS => ?_)
      refine r_top (show (ctR s1 st2445 tl (nI 9)) = (nI (cntF (fun k => !fitE s1 k) (nE s1))) from ct_ (by omega)) ?_
      refine r_if_ne (tgt := 501) hx hb (nI_tI (by omega)) dL_acts_484 (by decide) (fun c484 => False.elim (by have q := hm4 (by omega); omega)) (fun c484 => ?_)
      refine lv_iload hx hb dL_acts_487 (lv_at hl 2 rfl) ?_
      refine r_if_gt (tgt := 497) hx hb (nI_tI (by omega)) dL_acts_489 (by decide) (fun c489 => ?_) (fun c489 => ?_)
      · skip
        refine lv_iconst (v := (nI 1)) hx hb dL_acts_497 (by decide) ?_
        refine lv_goto (tgt := 502) hx hb dL_acts_498 (by decide) ?_
        exact hret (nI 1) (cw445, hc2445, st2445, nx2445, uf2466, wl, wf) H locs _ ls (show (nI 1) = (nI 1) ∧ (∃ s2, LX s2 cw445 st2445 nx2445) from (⟨rfl, s1, hL1⟩)) rfl (hP.sub [6, 7, 8, 4, 5, 0, 1, 9, 10, 2, 3] rfl) (hD.sub [6, 7, 8, 4, 5, 0, 1, 9, 10, 2, 3] (by decide) rfl) hS dL_acts_502
      · skip
        refine lv_iload hx hb dL_acts_492 (lv_at hl 0 rfl) ?_
        refine r_if_ne (tgt := 501) hx hb (nI_tI (by omega)) dL_acts_494 (by decide) (fun c494 => False.elim (by have q := hm5 (by omega); omega)) (fun c494 => ?_)
        refine lv_iconst (v := (nI 1)) hx hb dL_acts_497 (by decide) ?_
        refine lv_goto (tgt := 502) hx hb dL_acts_498 (by decide) ?_
        exact hret (nI 1) (cw445, hc2445, st2445, nx2445, uf2466, wl, wf) H locs _ ls (show (nI 1) = (nI 1) ∧ (∃ s2, LX s2 cw445 st2445 nx2445) from (⟨rfl, s1, hL1⟩)) rfl (hP.sub [6, 7, 8, 4, 5, 0, 1, 9, 10, 2, 3] rfl) (hD.sub [6, 7, 8, 4, 5, 0, 1, 9, 10, 2, 3] (by decide) rfl) hS dL_acts_502
  · skip
    refine lv_tableIn (off := 488) (tgt := 503) hx hb dL_acts_15 (by decide) (by decide) rfl (by decide) ?_
    refine lv_aload_n hx hb dL_acts_503 rfl (lv_at hl 2 rfl) ?_
    refine call_w (wr := [(xt, .inr (6, [.ref xtc, .int (nI tl)])), (xtc, .inl (tq.1, 100, .inl tx)), (xu, .inr (5, [.ref xus])), (xus, .inl (tq.1, 6, .inl uf)), (xw, .inr (3, [.ref xwe, .int wl])), (xwe, .inl (tq.1, 60, .inl wf))]) (va_runV (As := []) (rest := []) ⟨hx, hb, hml, hown, hts⟩ (kX7_seal ln dg tq (x0 := x0) (xl := xl) (xh := xh) (xt := xt) (xp := xp) (xo := xo) (xu := xu) (xw := xw) (xlc := xlc) (c := c) (s := s) (hF := hF) (xhc := xhc) (st := st) (nx := nx) (hc := hc) (hst := (by omega)) (hnx := (by omega)) H.size) (cwV 0 hts gL_acts_X7_seal rfl rfl rfl hdX7_seal ⟨Nat.le_of_ble_eq_true rfl, Nat.le_of_ble_eq_true rfl⟩) (preVB hK hN hP hD [0, 1, 2, 3, 4] rfl rfl rfl 0 rfl rfl []) rfl rfl hl.1 rfl (lv_room (Nat.le_of_ble_eq_true rfl)) dL_acts_504 ⟨Nat.le_refl _, Nat.le_refl _⟩) hP hD hS hA [0, 1, 2, 3, 4] [5, 6, 7, 8, 9, 10] rfl rfl (by decide) (by decide) (fun r504 u504 H locs hw504 hP hD hS => ?_)
    obtain ⟨cw504, hc2504, st2504, nx2504⟩ := u504
    have hP : va_P dg vwCl [(xt, .inr (6, [.ref xtc, .int (nI tl)])), (xtc, .inl (tq.1, 100, .inl tx)), (xu, .inr (5, [.ref xus])), (xus, .inl (tq.1, 6, .inl uf)), (xw, .inr (3, [.ref xwe, .int wl])), (xwe, .inl (tq.1, 60, .inl wf)), (x0, .inr (7, [.ref xl, .ref xh, .ref xt, .ref xp, .ref xo, .ref xu, .ref xw])), (xl, .inr (1, [.ref xlc])), (xlc, .inl (tq.1, 1473, .inl cw504)), (xh, .inr (0, [.ref xhc, .int (nI st2504), .int (nI nx2504)])), (xhc, .inl (tq.1, 7365, .inl hc2504))] H := hP
    have hD : va_D AA [(xt, .inr (6, [.ref xtc, .int (nI tl)])), (xtc, .inl (tq.1, 100, .inl tx)), (xu, .inr (5, [.ref xus])), (xus, .inl (tq.1, 6, .inl uf)), (xw, .inr (3, [.ref xwe, .int wl])), (xwe, .inl (tq.1, 60, .inl wf)), (x0, .inr (7, [.ref xl, .ref xh, .ref xt, .ref xp, .ref xo, .ref xu, .ref xw])), (xl, .inr (1, [.ref xlc])), (xlc, .inl (tq.1, 1473, .inl cw504)), (xh, .inr (0, [.ref xhc, .int (nI st2504), .int (nI nx2504)])), (xhc, .inl (tq.1, 7365, .inl hc2504))] := hD
    obtain ⟨hr504, hw504⟩ := hw504
    subst hr504
    obtain ⟨tv_, htv_⟩ : ∃ x : Int32, x = slR s := ⟨_, rfl⟩
    obtain ⟨s1, hL1, hs8_⟩ := A_sl hL htv_ hw504
    obtain ⟨hF1, hX1, hst1, hnx1⟩ := id hL1
    obtain ⟨hR1, hW1, -, -⟩ := id hF1
    have hn601 := hW1.n60
    have hn11 := hW1.n1
    have hb101 := hW1.b10
    have hs81 := hW1.s8
    have hhn1 := hW1.hn
    refine r_top (show (slR s) = tv_ from htv_.symm) ?_
    refine r_if_ge (tgt := 521) hx hb rfl dL_acts_507 (by decide) (fun c507 => ?_) (fun c507 => ?_)
    · skip
      refine lv_iconst (v := (nI 1)) hx hb dL_acts_521 (by decide) ?_
      refine lv_goto (tgt := 526) hx hb dL_acts_522 (by decide) ?_
      exact hret (nI 1) (cw504, hc2504, st2504, nx2504, uf, wl, wf) H locs _ ls (show (nI 1) = (nI 1) ∧ (∃ s2, LX s2 cw504 st2504 nx2504) from (⟨rfl, s1, hL1⟩)) rfl (hP.sub [6, 7, 8, 9, 10, 0, 1, 2, 3, 4, 5] rfl) (hD.sub [6, 7, 8, 9, 10, 0, 1, 2, 3, 4, 5] (by decide) rfl) hS dL_acts_526
    · skip
      refine lv_aload_n hx hb dL_acts_510 rfl (lv_at hl 2 rfl) ?_
      refine lv_bipush (v := (nI 7)) hx hb dL_acts_511 (by decide) ?_
      refine call_x (va_runV (As := [.int (nI 7)]) (rest := []) ⟨hx, hb, hml, hown, hts⟩ (kX7_count ln dg tq (x0 := x0) (xl := xl) (xh := xh) (xt := xt) (xp := xp) (xo := xo) (xu := xu) (xw := xw) (xlc := xlc) (c := cw504) (s := s1) (hF := hF1) (xhc := xhc) (st := st2504) (nx := nx2504) (hc := hc2504) (xtc := xtc) (tl := tl) (tx := tx) (x := (nI 7)) H.size) (cwV 1 hts gL_acts_X7_count rfl rfl rfl hdX7_count ⟨Nat.le_of_ble_eq_true rfl, Nat.le_of_ble_eq_true rfl⟩) (preVR hK hN hP [6, 7, 8, 9, 10, 0, 1] rfl 6 rfl rfl [.int (nI 7)]) rfl rfl hl.1 rfl (lv_room (Nat.le_of_ble_eq_true rfl)) dL_acts_513 ⟨Nat.le_refl _, Nat.le_refl _⟩) hP hS hA (fun H locs hP hS => ?_)
      refine r_top (show (ctR s1 st2504 tl (nI 7)) = (nI (nS s1)) from ct_ (by omega)) ?_
      refine lv_bipush (v := (nI 8)) hx hb dL_acts_516 (by decide) ?_
      refine r_icmp_ne (tgt := 525) hx hb (nI_tI (by omega)) (nI_tI (by omega)) dL_acts_518 (by decide) (fun c518 => False.elim (by have q := hs8_ c507; omega)) (fun c518 => ?_)
      refine lv_iconst (v := (nI 1)) hx hb dL_acts_521 (by decide) ?_
      refine lv_goto (tgt := 526) hx hb dL_acts_522 (by decide) ?_
      exact hret (nI 1) (cw504, hc2504, st2504, nx2504, uf, wl, wf) H locs _ ls (show (nI 1) = (nI 1) ∧ (∃ s2, LX s2 cw504 st2504 nx2504) from (⟨rfl, s1, hL1⟩)) rfl (hP.sub [6, 7, 8, 9, 10, 0, 1, 2, 3, 4, 5] rfl) (hD.sub [6, 7, 8, 9, 10, 0, 1, 2, 3, 4, 5] (by decide) rfl) hS dL_acts_526
  · skip
    refine lv_tableIn (off := 512) (tgt := 527) hx hb dL_acts_15 (by decide) (by decide) rfl (by decide) ?_
    obtain ⟨p_, hp1, hp2, hpz⟩ : ∃ p, 1 ≤ p ∧ p ≤ 30 ∧ 1 + z % 8 = p := ⟨_, by omega, by omega, rfl⟩
    refine lv_aload_n hx hb dL_acts_527 rfl (lv_at hl 2 rfl) ?_
    refine lv_iconst (v := (nI 1)) hx hb dL_acts_528 (by decide) ?_
    refine lv_iload_n hx hb dL_acts_529 rfl (lv_at hl 1 rfl) ?_
    refine lv_bipush (v := (nI 8)) hx hb dL_acts_530 (by decide) ?_
    refine r_irem_n hx hb (by omega) (by omega) (by omega) dL_acts_532 ?_
    refine r_iadd_n hx hb dL_acts_533 ?_
    refine r_top (show (nI (1 + (z % 8))) = (nI p_) from congrArg nI hpz) ?_
    refine call_w (wr := [(xt, .inr (6, [.ref xtc, .int (nI tl)])), (xtc, .inl (tq.1, 100, .inl tx)), (xu, .inr (5, [.ref xus])), (xus, .inl (tq.1, 6, .inl uf)), (xw, .inr (3, [.ref xwe, .int wl])), (xwe, .inl (tq.1, 60, .inl wf))]) (va_runV (As := [.int (nI p_)]) (rest := []) ⟨hx, hb, hml, hown, hts⟩ (kX7_setPatience ln dg tq (x0 := x0) (xl := xl) (xh := xh) (xt := xt) (xp := xp) (xo := xo) (xu := xu) (xw := xw) (xlc := xlc) (c := c) (s := s) (hF := hF) (xhc := xhc) (st := st) (nx := nx) (hc := hc) (hst := (by omega)) (hnx := (by omega)) (x := (nI p_)) H.size) (cwV 1 hts gL_acts_X7_setPatience rfl rfl rfl hdX7_setPatience ⟨Nat.le_of_ble_eq_true rfl, Nat.le_of_ble_eq_true rfl⟩) (preVB hK hN hP hD [0, 1, 2, 3, 4] rfl rfl rfl 0 rfl rfl [.int (nI p_)]) rfl rfl hl.1 rfl (lv_room (Nat.le_of_ble_eq_true rfl)) dL_acts_534 ⟨Nat.le_refl _, Nat.le_refl _⟩) hP hD hS hA [0, 1, 2, 3, 4] [5, 6, 7, 8, 9, 10] rfl rfl (by decide) (by decide) (fun r534 u534 H locs hw534 hP hD hS => ?_)
    obtain ⟨cw534, hc2534, st2534, nx2534⟩ := u534
    have hP : va_P dg vwCl [(xt, .inr (6, [.ref xtc, .int (nI tl)])), (xtc, .inl (tq.1, 100, .inl tx)), (xu, .inr (5, [.ref xus])), (xus, .inl (tq.1, 6, .inl uf)), (xw, .inr (3, [.ref xwe, .int wl])), (xwe, .inl (tq.1, 60, .inl wf)), (x0, .inr (7, [.ref xl, .ref xh, .ref xt, .ref xp, .ref xo, .ref xu, .ref xw])), (xl, .inr (1, [.ref xlc])), (xlc, .inl (tq.1, 1473, .inl cw534)), (xh, .inr (0, [.ref xhc, .int (nI st2534), .int (nI nx2534)])), (xhc, .inl (tq.1, 7365, .inl hc2534))] H := hP
    have hD : va_D AA [(xt, .inr (6, [.ref xtc, .int (nI tl)])), (xtc, .inl (tq.1, 100, .inl tx)), (xu, .inr (5, [.ref xus])), (xus, .inl (tq.1, 6, .inl uf)), (xw, .inr (3, [.ref xwe, .int wl])), (xwe, .inl (tq.1, 60, .inl wf)), (x0, .inr (7, [.ref xl, .ref xh, .ref xt, .ref xp, .ref xo, .ref xu, .ref xw])), (xl, .inr (1, [.ref xlc])), (xlc, .inl (tq.1, 1473, .inl cw534)), (xh, .inr (0, [.ref xhc, .int (nI st2534), .int (nI nx2534)])), (xhc, .inl (tq.1, 7365, .inl hc2534))] := hD
    obtain ⟨hr534, hw534⟩ := hw534
    subst hr534
    obtain ⟨tv_, htv_⟩ : ∃ x : Int32, x = ptR s (nI p_) := ⟨_, rfl⟩
    obtain ⟨s1, hL1, hpos⟩ := A_pt hL hp1 hp2 htv_ hw534
    obtain ⟨hF1, hX1, hst1, hnx1⟩ := id hL1
    obtain ⟨hR1, hW1, -, -⟩ := id hF1
    have hn601 := hW1.n60
    have hn11 := hW1.n1
    have hb101 := hW1.b10
    have hs81 := hW1.s8
    have hhn1 := hW1.hn
    refine r_top (show (ptR s (nI p_)) = tv_ from htv_.symm) ?_
    refine r_if_le (tgt := 544) hx hb rfl dL_acts_537 (by decide) (fun c537 => False.elim (by omega)) (fun c537 => ?_)
    refine lv_iconst (v := (nI 1)) hx hb dL_acts_540 (by decide) ?_
    refine lv_goto (tgt := 545) hx hb dL_acts_541 (by decide) ?_
    exact hret (nI 1) (cw534, hc2534, st2534, nx2534, uf, wl, wf) H locs _ ls (show (nI 1) = (nI 1) ∧ (∃ s2, LX s2 cw534 st2534 nx2534) from (⟨rfl, s1, hL1⟩)) rfl (hP.sub [6, 7, 8, 9, 10, 0, 1, 2, 3, 4, 5] rfl) (hD.sub [6, 7, 8, 9, 10, 0, 1, 2, 3, 4, 5] (by decide) rfl) hS dL_acts_545
  · skip
    refine lv_tableOut (tgt := 546) hx hb dL_acts_15 (by decide) (by decide) ?_
    refine lv_aload_n hx hb dL_acts_546 rfl (lv_at hl 2 rfl) ?_
    refine lv_iload_n hx hb dL_acts_547 rfl (lv_at hl 1 rfl) ?_
    refine call_w (wr := [(xw, .inr (3, [.ref xwe, .int wl])), (xwe, .inl (tq.1, 60, .inl wf))]) (va_runS (As := [.ref x0, .int (nI z)]) (rest := []) ⟨hx, hb, hml, hown, hts⟩ (kL_writes ln dg tq (x0 := x0) (xl := xl) (xh := xh) (xt := xt) (xp := xp) (xo := xo) (xu := xu) (xw := xw) (xlc := xlc) (c := c) (s := s) (xhc := xhc) (st := st) (nx := nx) (hc := hc) (hL := hL) (xtc := xtc) (tl := tl) (tx := tx) (xus := xus) (uf := uf) (z := z) (hz := hz) H.size) (va_cwS 2 hts gL_acts_L_writes rfl rfl rfl hdL_writes.2 ⟨Nat.le_of_ble_eq_true rfl, Nat.le_of_ble_eq_true rfl⟩) (preSB hK hN hP hD [0, 1, 2, 3, 4, 5, 6, 7, 8] rfl rfl rfl [.ref x0, .int (nI z)]) rfl rfl hl.1 rfl (lv_room (Nat.le_of_ble_eq_true rfl)) dL_acts_548 ⟨Nat.le_refl _, Nat.le_refl _⟩) hP hD hS hA [0, 1, 2, 3, 4, 5, 6, 7, 8] [9, 10] rfl rfl (by decide) (by decide) (fun r548 u548 H locs hw548 hP hD hS => ?_)
    obtain ⟨cw548, hc2548, st2548, nx2548, uf2548⟩ := u548
    have hP : va_P dg vwCl [(xw, .inr (3, [.ref xwe, .int wl])), (xwe, .inl (tq.1, 60, .inl wf)), (x0, .inr (7, [.ref xl, .ref xh, .ref xt, .ref xp, .ref xo, .ref xu, .ref xw])), (xl, .inr (1, [.ref xlc])), (xlc, .inl (tq.1, 1473, .inl cw548)), (xh, .inr (0, [.ref xhc, .int (nI st2548), .int (nI nx2548)])), (xhc, .inl (tq.1, 7365, .inl hc2548)), (xt, .inr (6, [.ref xtc, .int (nI tl)])), (xtc, .inl (tq.1, 100, .inl tx)), (xu, .inr (5, [.ref xus])), (xus, .inl (tq.1, 6, .inl uf2548))] H := hP
    have hD : va_D AA [(xw, .inr (3, [.ref xwe, .int wl])), (xwe, .inl (tq.1, 60, .inl wf)), (x0, .inr (7, [.ref xl, .ref xh, .ref xt, .ref xp, .ref xo, .ref xu, .ref xw])), (xl, .inr (1, [.ref xlc])), (xlc, .inl (tq.1, 1473, .inl cw548)), (xh, .inr (0, [.ref xhc, .int (nI st2548), .int (nI nx2548)])), (xhc, .inl (tq.1, 7365, .inl hc2548)), (xt, .inr (6, [.ref xtc, .int (nI tl)])), (xtc, .inl (tq.1, 100, .inl tx)), (xu, .inr (5, [.ref xus])), (xus, .inl (tq.1, 6, .inl uf2548))] := hD
    obtain ⟨hr548, hw548⟩ := hw548
    subst hr548
    obtain ⟨s1, hL1⟩ := hw548
    exact hret (nI 1) (cw548, hc2548, st2548, nx2548, uf2548, wl, wf) H locs _ ls (show (nI 1) = (nI 1) ∧ (∃ s2, LX s2 cw548 st2548 nx2548) from (⟨rfl, s1, hL1⟩)) rfl (hP.sub [2, 3, 4, 5, 6, 7, 8, 9, 10, 0, 1] rfl) (hD.sub [2, 3, 4, 5, 6, 7, 8, 9, 10, 0, 1] (by decide) rfl) hS dL_acts_551
  · skip
    refine lv_tableOut (tgt := 546) hx hb dL_acts_15 (by decide) (by decide) ?_
    refine lv_aload_n hx hb dL_acts_546 rfl (lv_at hl 2 rfl) ?_
    refine lv_iload_n hx hb dL_acts_547 rfl (lv_at hl 1 rfl) ?_
    refine call_w (wr := [(xw, .inr (3, [.ref xwe, .int wl])), (xwe, .inl (tq.1, 60, .inl wf))]) (va_runS (As := [.ref x0, .int (nI z)]) (rest := []) ⟨hx, hb, hml, hown, hts⟩ (kL_writes ln dg tq (x0 := x0) (xl := xl) (xh := xh) (xt := xt) (xp := xp) (xo := xo) (xu := xu) (xw := xw) (xlc := xlc) (c := c) (s := s) (xhc := xhc) (st := st) (nx := nx) (hc := hc) (hL := hL) (xtc := xtc) (tl := tl) (tx := tx) (xus := xus) (uf := uf) (z := z) (hz := hz) H.size) (va_cwS 2 hts gL_acts_L_writes rfl rfl rfl hdL_writes.2 ⟨Nat.le_of_ble_eq_true rfl, Nat.le_of_ble_eq_true rfl⟩) (preSB hK hN hP hD [0, 1, 2, 3, 4, 5, 6, 7, 8] rfl rfl rfl [.ref x0, .int (nI z)]) rfl rfl hl.1 rfl (lv_room (Nat.le_of_ble_eq_true rfl)) dL_acts_548 ⟨Nat.le_refl _, Nat.le_refl _⟩) hP hD hS hA [0, 1, 2, 3, 4, 5, 6, 7, 8] [9, 10] rfl rfl (by decide) (by decide) (fun r548 u548 H locs hw548 hP hD hS => ?_)
    obtain ⟨cw548, hc2548, st2548, nx2548, uf2548⟩ := u548
    have hP : va_P dg vwCl [(xw, .inr (3, [.ref xwe, .int wl])), (xwe, .inl (tq.1, 60, .inl wf)), (x0, .inr (7, [.ref xl, .ref xh, .ref xt, .ref xp, .ref xo, .ref xu, .ref xw])), (xl, .inr (1, [.ref xlc])), (xlc, .inl (tq.1, 1473, .inl cw548)), (xh, .inr (0, [.ref xhc, .int (nI st2548), .int (nI nx2548)])), (xhc, .inl (tq.1, 7365, .inl hc2548)), (xt, .inr (6, [.ref xtc, .int (nI tl)])), (xtc, .inl (tq.1, 100, .inl tx)), (xu, .inr (5, [.ref xus])), (xus, .inl (tq.1, 6, .inl uf2548))] H := hP
    have hD : va_D AA [(xw, .inr (3, [.ref xwe, .int wl])), (xwe, .inl (tq.1, 60, .inl wf)), (x0, .inr (7, [.ref xl, .ref xh, .ref xt, .ref xp, .ref xo, .ref xu, .ref xw])), (xl, .inr (1, [.ref xlc])), (xlc, .inl (tq.1, 1473, .inl cw548)), (xh, .inr (0, [.ref xhc, .int (nI st2548), .int (nI nx2548)])), (xhc, .inl (tq.1, 7365, .inl hc2548)), (xt, .inr (6, [.ref xtc, .int (nI tl)])), (xtc, .inl (tq.1, 100, .inl tx)), (xu, .inr (5, [.ref xus])), (xus, .inl (tq.1, 6, .inl uf2548))] := hD
    obtain ⟨hr548, hw548⟩ := hw548
    subst hr548
    obtain ⟨s1, hL1⟩ := hw548
    exact hret (nI 1) (cw548, hc2548, st2548, nx2548, uf2548, wl, wf) H locs _ ls (show (nI 1) = (nI 1) ∧ (∃ s2, LX s2 cw548 st2548 nx2548) from (⟨rfl, s1, hL1⟩)) rfl (hP.sub [2, 3, 4, 5, 6, 7, 8, 9, 10, 0, 1] rfl) (hD.sub [2, 3, 4, 5, 6, 7, 8, 9, 10, 0, 1] (by decide) rfl) hS dL_acts_551
  · skip
    refine lv_tableOut (tgt := 546) hx hb dL_acts_15 (by decide) (by decide) ?_
    refine lv_aload_n hx hb dL_acts_546 rfl (lv_at hl 2 rfl) ?_
    refine lv_iload_n hx hb dL_acts_547 rfl (lv_at hl 1 rfl) ?_
    refine call_w (wr := [(xw, .inr (3, [.ref xwe, .int wl])), (xwe, .inl (tq.1, 60, .inl wf))]) (va_runS (As := [.ref x0, .int (nI z)]) (rest := []) ⟨hx, hb, hml, hown, hts⟩ (kL_writes ln dg tq (x0 := x0) (xl := xl) (xh := xh) (xt := xt) (xp := xp) (xo := xo) (xu := xu) (xw := xw) (xlc := xlc) (c := c) (s := s) (xhc := xhc) (st := st) (nx := nx) (hc := hc) (hL := hL) (xtc := xtc) (tl := tl) (tx := tx) (xus := xus) (uf := uf) (z := z) (hz := hz) H.size) (va_cwS 2 hts gL_acts_L_writes rfl rfl rfl hdL_writes.2 ⟨Nat.le_of_ble_eq_true rfl, Nat.le_of_ble_eq_true rfl⟩) (preSB hK hN hP hD [0, 1, 2, 3, 4, 5, 6, 7, 8] rfl rfl rfl [.ref x0, .int (nI z)]) rfl rfl hl.1 rfl (lv_room (Nat.le_of_ble_eq_true rfl)) dL_acts_548 ⟨Nat.le_refl _, Nat.le_refl _⟩) hP hD hS hA [0, 1, 2, 3, 4, 5, 6, 7, 8] [9, 10] rfl rfl (by decide) (by decide) (fun r548 u548 H locs hw548 hP hD hS => ?_)
    obtain ⟨cw548, hc2548, st2548, nx2548, uf2548⟩ := u548
    have hP : va_P dg vwCl [(xw, .inr (3, [.ref xwe, .int wl])), (xwe, .inl (tq.1, 60, .inl wf)), (x0, .inr (7, [.ref xl, .ref xh, .ref xt, .ref xp, .ref xo, .ref xu, .ref xw])), (xl, .inr (1, [.ref xlc])), (xlc, .inl (tq.1, 1473, .inl cw548)), (xh, .inr (0, [.ref xhc, .int (nI st2548), .int (nI nx2548)])), (xhc, .inl (tq.1, 7365, .inl hc2548)), (xt, .inr (6, [.ref xtc, .int (nI tl)])), (xtc, .inl (tq.1, 100, .inl tx)), (xu, .inr (5, [.ref xus])), (xus, .inl (tq.1, 6, .inl uf2548))] H := hP
    have hD : va_D AA [(xw, .inr (3, [.ref xwe, .int wl])), (xwe, .inl (tq.1, 60, .inl wf)), (x0, .inr (7, [.ref xl, .ref xh, .ref xt, .ref xp, .ref xo, .ref xu, .ref xw])), (xl, .inr (1, [.ref xlc])), (xlc, .inl (tq.1, 1473, .inl cw548)), (xh, .inr (0, [.ref xhc, .int (nI st2548), .int (nI nx2548)])), (xhc, .inl (tq.1, 7365, .inl hc2548)), (xt, .inr (6, [.ref xtc, .int (nI tl)])), (xtc, .inl (tq.1, 100, .inl tx)), (xu, .inr (5, [.ref xus])), (xus, .inl (tq.1, 6, .inl uf2548))] := hD
    obtain ⟨hr548, hw548⟩ := hw548
    subst hr548
    obtain ⟨s1, hL1⟩ := hw548
    exact hret (nI 1) (cw548, hc2548, st2548, nx2548, uf2548, wl, wf) H locs _ ls (show (nI 1) = (nI 1) ∧ (∃ s2, LX s2 cw548 st2548 nx2548) from (⟨rfl, s1, hL1⟩)) rfl (hP.sub [2, 3, 4, 5, 6, 7, 8, 9, 10, 0, 1] rfl) (hD.sub [2, 3, 4, 5, 6, 7, 8, 9, 10, 0, 1] (by decide) rfl) hS dL_acts_551
  · skip
    refine lv_tableOut (tgt := 546) hx hb dL_acts_15 (by decide) (by decide) ?_
    refine lv_aload_n hx hb dL_acts_546 rfl (lv_at hl 2 rfl) ?_
    refine lv_iload_n hx hb dL_acts_547 rfl (lv_at hl 1 rfl) ?_
    refine call_w (wr := [(xw, .inr (3, [.ref xwe, .int wl])), (xwe, .inl (tq.1, 60, .inl wf))]) (va_runS (As := [.ref x0, .int (nI z)]) (rest := []) ⟨hx, hb, hml, hown, hts⟩ (kL_writes ln dg tq (x0 := x0) (xl := xl) (xh := xh) (xt := xt) (xp := xp) (xo := xo) (xu := xu) (xw := xw) (xlc := xlc) (c := c) (s := s) (xhc := xhc) (st := st) (nx := nx) (hc := hc) (hL := hL) (xtc := xtc) (tl := tl) (tx := tx) (xus := xus) (uf := uf) (z := z) (hz := hz) H.size) (va_cwS 2 hts gL_acts_L_writes rfl rfl rfl hdL_writes.2 ⟨Nat.le_of_ble_eq_true rfl, Nat.le_of_ble_eq_true rfl⟩) (preSB hK hN hP hD [0, 1, 2, 3, 4, 5, 6, 7, 8] rfl rfl rfl [.ref x0, .int (nI z)]) rfl rfl hl.1 rfl (lv_room (Nat.le_of_ble_eq_true rfl)) dL_acts_548 ⟨Nat.le_refl _, Nat.le_refl _⟩) hP hD hS hA [0, 1, 2, 3, 4, 5, 6, 7, 8] [9, 10] rfl rfl (by decide) (by decide) (fun r548 u548 H locs hw548 hP hD hS => ?_)
    obtain ⟨cw548, hc2548, st2548, nx2548, uf2548⟩ := u548
    have hP : va_P dg vwCl [(xw, .inr (3, [.ref xwe, .int wl])), (xwe, .inl (tq.1, 60, .inl wf)), (x0, .inr (7, [.ref xl, .ref xh, .ref xt, .ref xp, .ref xo, .ref xu, .ref xw])), (xl, .inr (1, [.ref xlc])), (xlc, .inl (tq.1, 1473, .inl cw548)), (xh, .inr (0, [.ref xhc, .int (nI st2548), .int (nI nx2548)])), (xhc, .inl (tq.1, 7365, .inl hc2548)), (xt, .inr (6, [.ref xtc, .int (nI tl)])), (xtc, .inl (tq.1, 100, .inl tx)), (xu, .inr (5, [.ref xus])), (xus, .inl (tq.1, 6, .inl uf2548))] H := hP
    have hD : va_D AA [(xw, .inr (3, [.ref xwe, .int wl])), (xwe, .inl (tq.1, 60, .inl wf)), (x0, .inr (7, [.ref xl, .ref xh, .ref xt, .ref xp, .ref xo, .ref xu, .ref xw])), (xl, .inr (1, [.ref xlc])), (xlc, .inl (tq.1, 1473, .inl cw548)), (xh, .inr (0, [.ref xhc, .int (nI st2548), .int (nI nx2548)])), (xhc, .inl (tq.1, 7365, .inl hc2548)), (xt, .inr (6, [.ref xtc, .int (nI tl)])), (xtc, .inl (tq.1, 100, .inl tx)), (xu, .inr (5, [.ref xus])), (xus, .inl (tq.1, 6, .inl uf2548))] := hD
    obtain ⟨hr548, hw548⟩ := hw548
    subst hr548
    obtain ⟨s1, hL1⟩ := hw548
    exact hret (nI 1) (cw548, hc2548, st2548, nx2548, uf2548, wl, wf) H locs _ ls (show (nI 1) = (nI 1) ∧ (∃ s2, LX s2 cw548 st2548 nx2548) from (⟨rfl, s1, hL1⟩)) rfl (hP.sub [2, 3, 4, 5, 6, 7, 8, 9, 10, 0, 1] rfl) (hD.sub [2, 3, 4, 5, 6, 7, 8, 9, 10, 0, 1] (by decide) rfl) hS dL_acts_551
  · skip
    refine lv_tableOut (tgt := 546) hx hb dL_acts_15 (by decide) (by decide) ?_
    refine lv_aload_n hx hb dL_acts_546 rfl (lv_at hl 2 rfl) ?_
    refine lv_iload_n hx hb dL_acts_547 rfl (lv_at hl 1 rfl) ?_
    refine call_w (wr := [(xw, .inr (3, [.ref xwe, .int wl])), (xwe, .inl (tq.1, 60, .inl wf))]) (va_runS (As := [.ref x0, .int (nI z)]) (rest := []) ⟨hx, hb, hml, hown, hts⟩ (kL_writes ln dg tq (x0 := x0) (xl := xl) (xh := xh) (xt := xt) (xp := xp) (xo := xo) (xu := xu) (xw := xw) (xlc := xlc) (c := c) (s := s) (xhc := xhc) (st := st) (nx := nx) (hc := hc) (hL := hL) (xtc := xtc) (tl := tl) (tx := tx) (xus := xus) (uf := uf) (z := z) (hz := hz) H.size) (va_cwS 2 hts gL_acts_L_writes rfl rfl rfl hdL_writes.2 ⟨Nat.le_of_ble_eq_true rfl, Nat.le_of_ble_eq_true rfl⟩) (preSB hK hN hP hD [0, 1, 2, 3, 4, 5, 6, 7, 8] rfl rfl rfl [.ref x0, .int (nI z)]) rfl rfl hl.1 rfl (lv_room (Nat.le_of_ble_eq_true rfl)) dL_acts_548 ⟨Nat.le_refl _, Nat.le_refl _⟩) hP hD hS hA [0, 1, 2, 3, 4, 5, 6, 7, 8] [9, 10] rfl rfl (by decide) (by decide) (fun r548 u548 H locs hw548 hP hD hS => ?_)
    obtain ⟨cw548, hc2548, st2548, nx2548, uf2548⟩ := u548
    have hP : va_P dg vwCl [(xw, .inr (3, [.ref xwe, .int wl])), (xwe, .inl (tq.1, 60, .inl wf)), (x0, .inr (7, [.ref xl, .ref xh, .ref xt, .ref xp, .ref xo, .ref xu, .ref xw])), (xl, .inr (1, [.ref xlc])), (xlc, .inl (tq.1, 1473, .inl cw548)), (xh, .inr (0, [.ref xhc, .int (nI st2548), .int (nI nx2548)])), (xhc, .inl (tq.1, 7365, .inl hc2548)), (xt, .inr (6, [.ref xtc, .int (nI tl)])), (xtc, .inl (tq.1, 100, .inl tx)), (xu, .inr (5, [.ref xus])), (xus, .inl (tq.1, 6, .inl uf2548))] H := hP
    have hD : va_D AA [(xw, .inr (3, [.ref xwe, .int wl])), (xwe, .inl (tq.1, 60, .inl wf)), (x0, .inr (7, [.ref xl, .ref xh, .ref xt, .ref xp, .ref xo, .ref xu, .ref xw])), (xl, .inr (1, [.ref xlc])), (xlc, .inl (tq.1, 1473, .inl cw548)), (xh, .inr (0, [.ref xhc, .int (nI st2548), .int (nI nx2548)])), (xhc, .inl (tq.1, 7365, .inl hc2548)), (xt, .inr (6, [.ref xtc, .int (nI tl)])), (xtc, .inl (tq.1, 100, .inl tx)), (xu, .inr (5, [.ref xus])), (xus, .inl (tq.1, 6, .inl uf2548))] := hD
    obtain ⟨hr548, hw548⟩ := hw548
    subst hr548
    obtain ⟨s1, hL1⟩ := hw548
    exact hret (nI 1) (cw548, hc2548, st2548, nx2548, uf2548, wl, wf) H locs _ ls (show (nI 1) = (nI 1) ∧ (∃ s2, LX s2 cw548 st2548 nx2548) from (⟨rfl, s1, hL1⟩)) rfl (hP.sub [2, 3, 4, 5, 6, 7, 8, 9, 10, 0, 1] rfl) (hD.sub [2, 3, 4, 5, 6, 7, 8, 9, 10, 0, 1] (by decide) rfl) hS dL_acts_551
  · skip
    refine lv_tableOut (tgt := 546) hx hb dL_acts_15 (by decide) (by decide) ?_
    refine lv_aload_n hx hb dL_acts_546 rfl (lv_at hl 2 rfl) ?_
    refine lv_iload_n hx hb dL_acts_547 rfl (lv_at hl 1 rfl) ?_
    refine call_w (wr := [(xw, .inr (3, [.ref xwe, .int wl])), (xwe, .inl (tq.1, 60, .inl wf))]) (va_runS (As := [.ref x0, .int (nI z)]) (rest := []) ⟨hx, hb, hml, hown, hts⟩ (kL_writes ln dg tq (x0 := x0) (xl := xl) (xh := xh) (xt := xt) (xp := xp) (xo := xo) (xu := xu) (xw := xw) (xlc := xlc) (c := c) (s := s) (xhc := xhc) (st := st) (nx := nx) (hc := hc) (hL := hL) (xtc := xtc) (tl := tl) (tx := tx) (xus := xus) (uf := uf) (z := z) (hz := hz) H.size) (va_cwS 2 hts gL_acts_L_writes rfl rfl rfl hdL_writes.2 ⟨Nat.le_of_ble_eq_true rfl, Nat.le_of_ble_eq_true rfl⟩) (preSB hK hN hP hD [0, 1, 2, 3, 4, 5, 6, 7, 8] rfl rfl rfl [.ref x0, .int (nI z)]) rfl rfl hl.1 rfl (lv_room (Nat.le_of_ble_eq_true rfl)) dL_acts_548 ⟨Nat.le_refl _, Nat.le_refl _⟩) hP hD hS hA [0, 1, 2, 3, 4, 5, 6, 7, 8] [9, 10] rfl rfl (by decide) (by decide) (fun r548 u548 H locs hw548 hP hD hS => ?_)
    obtain ⟨cw548, hc2548, st2548, nx2548, uf2548⟩ := u548
    have hP : va_P dg vwCl [(xw, .inr (3, [.ref xwe, .int wl])), (xwe, .inl (tq.1, 60, .inl wf)), (x0, .inr (7, [.ref xl, .ref xh, .ref xt, .ref xp, .ref xo, .ref xu, .ref xw])), (xl, .inr (1, [.ref xlc])), (xlc, .inl (tq.1, 1473, .inl cw548)), (xh, .inr (0, [.ref xhc, .int (nI st2548), .int (nI nx2548)])), (xhc, .inl (tq.1, 7365, .inl hc2548)), (xt, .inr (6, [.ref xtc, .int (nI tl)])), (xtc, .inl (tq.1, 100, .inl tx)), (xu, .inr (5, [.ref xus])), (xus, .inl (tq.1, 6, .inl uf2548))] H := hP
    have hD : va_D AA [(xw, .inr (3, [.ref xwe, .int wl])), (xwe, .inl (tq.1, 60, .inl wf)), (x0, .inr (7, [.ref xl, .ref xh, .ref xt, .ref xp, .ref xo, .ref xu, .ref xw])), (xl, .inr (1, [.ref xlc])), (xlc, .inl (tq.1, 1473, .inl cw548)), (xh, .inr (0, [.ref xhc, .int (nI st2548), .int (nI nx2548)])), (xhc, .inl (tq.1, 7365, .inl hc2548)), (xt, .inr (6, [.ref xtc, .int (nI tl)])), (xtc, .inl (tq.1, 100, .inl tx)), (xu, .inr (5, [.ref xus])), (xus, .inl (tq.1, 6, .inl uf2548))] := hD
    obtain ⟨hr548, hw548⟩ := hw548
    subst hr548
    obtain ⟨s1, hL1⟩ := hw548
    exact hret (nI 1) (cw548, hc2548, st2548, nx2548, uf2548, wl, wf) H locs _ ls (show (nI 1) = (nI 1) ∧ (∃ s2, LX s2 cw548 st2548 nx2548) from (⟨rfl, s1, hL1⟩)) rfl (hP.sub [2, 3, 4, 5, 6, 7, 8, 9, 10, 0, 1] rfl) (hD.sub [2, 3, 4, 5, 6, 7, 8, 9, 10, 0, 1] (by decide) rfl) hS dL_acts_551
  · skip
    refine lv_tableOut (tgt := 546) hx hb dL_acts_15 (by decide) (by decide) ?_
    refine lv_aload_n hx hb dL_acts_546 rfl (lv_at hl 2 rfl) ?_
    refine lv_iload_n hx hb dL_acts_547 rfl (lv_at hl 1 rfl) ?_
    refine call_w (wr := [(xw, .inr (3, [.ref xwe, .int wl])), (xwe, .inl (tq.1, 60, .inl wf))]) (va_runS (As := [.ref x0, .int (nI z)]) (rest := []) ⟨hx, hb, hml, hown, hts⟩ (kL_writes ln dg tq (x0 := x0) (xl := xl) (xh := xh) (xt := xt) (xp := xp) (xo := xo) (xu := xu) (xw := xw) (xlc := xlc) (c := c) (s := s) (xhc := xhc) (st := st) (nx := nx) (hc := hc) (hL := hL) (xtc := xtc) (tl := tl) (tx := tx) (xus := xus) (uf := uf) (z := z) (hz := hz) H.size) (va_cwS 2 hts gL_acts_L_writes rfl rfl rfl hdL_writes.2 ⟨Nat.le_of_ble_eq_true rfl, Nat.le_of_ble_eq_true rfl⟩) (preSB hK hN hP hD [0, 1, 2, 3, 4, 5, 6, 7, 8] rfl rfl rfl [.ref x0, .int (nI z)]) rfl rfl hl.1 rfl (lv_room (Nat.le_of_ble_eq_true rfl)) dL_acts_548 ⟨Nat.le_refl _, Nat.le_refl _⟩) hP hD hS hA [0, 1, 2, 3, 4, 5, 6, 7, 8] [9, 10] rfl rfl (by decide) (by decide) (fun r548 u548 H locs hw548 hP hD hS => ?_)
    obtain ⟨cw548, hc2548, st2548, nx2548, uf2548⟩ := u548
    have hP : va_P dg vwCl [(xw, .inr (3, [.ref xwe, .int wl])), (xwe, .inl (tq.1, 60, .inl wf)), (x0, .inr (7, [.ref xl, .ref xh, .ref xt, .ref xp, .ref xo, .ref xu, .ref xw])), (xl, .inr (1, [.ref xlc])), (xlc, .inl (tq.1, 1473, .inl cw548)), (xh, .inr (0, [.ref xhc, .int (nI st2548), .int (nI nx2548)])), (xhc, .inl (tq.1, 7365, .inl hc2548)), (xt, .inr (6, [.ref xtc, .int (nI tl)])), (xtc, .inl (tq.1, 100, .inl tx)), (xu, .inr (5, [.ref xus])), (xus, .inl (tq.1, 6, .inl uf2548))] H := hP
    have hD : va_D AA [(xw, .inr (3, [.ref xwe, .int wl])), (xwe, .inl (tq.1, 60, .inl wf)), (x0, .inr (7, [.ref xl, .ref xh, .ref xt, .ref xp, .ref xo, .ref xu, .ref xw])), (xl, .inr (1, [.ref xlc])), (xlc, .inl (tq.1, 1473, .inl cw548)), (xh, .inr (0, [.ref xhc, .int (nI st2548), .int (nI nx2548)])), (xhc, .inl (tq.1, 7365, .inl hc2548)), (xt, .inr (6, [.ref xtc, .int (nI tl)])), (xtc, .inl (tq.1, 100, .inl tx)), (xu, .inr (5, [.ref xus])), (xus, .inl (tq.1, 6, .inl uf2548))] := hD
    obtain ⟨hr548, hw548⟩ := hw548
    subst hr548
    obtain ⟨s1, hL1⟩ := hw548
    exact hret (nI 1) (cw548, hc2548, st2548, nx2548, uf2548, wl, wf) H locs _ ls (show (nI 1) = (nI 1) ∧ (∃ s2, LX s2 cw548 st2548 nx2548) from (⟨rfl, s1, hL1⟩)) rfl (hP.sub [2, 3, 4, 5, 6, 7, 8, 9, 10, 0, 1] rfl) (hD.sub [2, 3, 4, 5, 6, 7, 8, 9, 10, 0, 1] (by decide) rfl) hS dL_acts_551
  · skip
    refine lv_tableOut (tgt := 546) hx hb dL_acts_15 (by decide) (by decide) ?_
    refine lv_aload_n hx hb dL_acts_546 rfl (lv_at hl 2 rfl) ?_
    refine lv_iload_n hx hb dL_acts_547 rfl (lv_at hl 1 rfl) ?_
    refine call_w (wr := [(xw, .inr (3, [.ref xwe, .int wl])), (xwe, .inl (tq.1, 60, .inl wf))]) (va_runS (As := [.ref x0, .int (nI z)]) (rest := []) ⟨hx, hb, hml, hown, hts⟩ (kL_writes ln dg tq (x0 := x0) (xl := xl) (xh := xh) (xt := xt) (xp := xp) (xo := xo) (xu := xu) (xw := xw) (xlc := xlc) (c := c) (s := s) (xhc := xhc) (st := st) (nx := nx) (hc := hc) (hL := hL) (xtc := xtc) (tl := tl) (tx := tx) (xus := xus) (uf := uf) (z := z) (hz := hz) H.size) (va_cwS 2 hts gL_acts_L_writes rfl rfl rfl hdL_writes.2 ⟨Nat.le_of_ble_eq_true rfl, Nat.le_of_ble_eq_true rfl⟩) (preSB hK hN hP hD [0, 1, 2, 3, 4, 5, 6, 7, 8] rfl rfl rfl [.ref x0, .int (nI z)]) rfl rfl hl.1 rfl (lv_room (Nat.le_of_ble_eq_true rfl)) dL_acts_548 ⟨Nat.le_refl _, Nat.le_refl _⟩) hP hD hS hA [0, 1, 2, 3, 4, 5, 6, 7, 8] [9, 10] rfl rfl (by decide) (by decide) (fun r548 u548 H locs hw548 hP hD hS => ?_)
    obtain ⟨cw548, hc2548, st2548, nx2548, uf2548⟩ := u548
    have hP : va_P dg vwCl [(xw, .inr (3, [.ref xwe, .int wl])), (xwe, .inl (tq.1, 60, .inl wf)), (x0, .inr (7, [.ref xl, .ref xh, .ref xt, .ref xp, .ref xo, .ref xu, .ref xw])), (xl, .inr (1, [.ref xlc])), (xlc, .inl (tq.1, 1473, .inl cw548)), (xh, .inr (0, [.ref xhc, .int (nI st2548), .int (nI nx2548)])), (xhc, .inl (tq.1, 7365, .inl hc2548)), (xt, .inr (6, [.ref xtc, .int (nI tl)])), (xtc, .inl (tq.1, 100, .inl tx)), (xu, .inr (5, [.ref xus])), (xus, .inl (tq.1, 6, .inl uf2548))] H := hP
    have hD : va_D AA [(xw, .inr (3, [.ref xwe, .int wl])), (xwe, .inl (tq.1, 60, .inl wf)), (x0, .inr (7, [.ref xl, .ref xh, .ref xt, .ref xp, .ref xo, .ref xu, .ref xw])), (xl, .inr (1, [.ref xlc])), (xlc, .inl (tq.1, 1473, .inl cw548)), (xh, .inr (0, [.ref xhc, .int (nI st2548), .int (nI nx2548)])), (xhc, .inl (tq.1, 7365, .inl hc2548)), (xt, .inr (6, [.ref xtc, .int (nI tl)])), (xtc, .inl (tq.1, 100, .inl tx)), (xu, .inr (5, [.ref xus])), (xus, .inl (tq.1, 6, .inl uf2548))] := hD
    obtain ⟨hr548, hw548⟩ := hw548
    subst hr548
    obtain ⟨s1, hL1⟩ := hw548
    exact hret (nI 1) (cw548, hc2548, st2548, nx2548, uf2548, wl, wf) H locs _ ls (show (nI 1) = (nI 1) ∧ (∃ s2, LX s2 cw548 st2548 nx2548) from (⟨rfl, s1, hL1⟩)) rfl (hP.sub [2, 3, 4, 5, 6, 7, 8, 9, 10, 0, 1] rfl) (hD.sub [2, 3, 4, 5, 6, 7, 8, 9, 10, 0, 1] (by decide) rfl) hS dL_acts_551
