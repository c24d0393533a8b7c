theorem hdL_branches : yL_branches.cls = RL ∧ yL_branches.cls ≠ "java/lang/invoke/MethodHandle" ∧ yL_branches.cls ≠ "java/lang/invoke/VarHandle" ∧ (parseMethodDescriptor yL_branches.desc).map (fun d => d.parameters.length) = some 1 := by decide +kernel
set_option maxHeartbeats 4000000 in
set_option maxRecDepth 100000 in
theorem kL_branches (ln : Launch) (dg : va_G) (tq : ClassId × ClassId) (x0 xl xh xt xp xo xu xw : Nat)(xlc : Nat) (c : Row) (s : Row)(xhc : Nat) (st nx : Nat) (hc : Row)(hL : LX s c st nx)(xtc : Nat) (tl : Nat) (tx : Row)(xus : Nat) (uf : Row) : MW ln yL_branches wsL_branches (rmm 5 113) dg tq [.ref x0] [(x0, .inr (7, [.ref xl, .ref xh, .ref xt, .ref xp, .ref xo, .ref xu, .ref xw])), (xl, .inr (1, [.ref xlc])), (xlc, .inl (tq.1, 1473, .inl c)), (xh, .inr (0, [.ref xhc, .int (nI st), .int (nI nx)])), (xhc, .inl (tq.1, 7365, .inl hc)), (xt, .inr (6, [.ref xtc, .int (nI tl)])), (xtc, .inl (tq.1, 100, .inl tx)), (xu, .inr (5, [.ref xus])), (xus, .inl (tq.1, 6, .inl uf))] (fun (r : Int32) (u : Row) => r = (nI 1)) (fun u => [(x0, .inr (7, [.ref xl, .ref xh, .ref xt, .ref xp, .ref xo, .ref xu, .ref xw])), (xl, .inr (1, [.ref xlc])), (xlc, .inl (tq.1, 1473, .inl c)), (xh, .inr (0, [.ref xhc, .int (nI st), .int (nI nx)])), (xhc, .inl (tq.1, 7365, .inl hc)), (xt, .inr (6, [.ref xtc, .int (nI tl)])), (xtc, .inl (tq.1, 100, .inl tx)), (xu, .inr (5, [.ref xus])), (xus, .inl (tq.1, 6, .inl u))]) := by
  refine MW.enter cL_branches 9 .boolean (by decide) rfl rfl (Nat.le_of_ble_eq_true rfl) ?_
  intro pP eE sS mM aA bB mT cC QQ AA hA hAT hret H locs hP hD hS ls hl
  obtain ⟨hx, hb, hml, hown, hts, hK, hN⟩ := hAT
  have hown : sS.vm.findClass RL = some mM.cls := hown
  have hl : lv_has ls 9 [(0, .ref x0)] := hl
  obtain ⟨hF, hX, hst, hnx⟩ := id hL
  obtain ⟨hR, hW, hs0, hs1⟩ := id hF
  have hn60 := hW.n60
  have hb10 := hW.b10
  have hs8 := hW.s8
  have hhn := hW.hn
  have hcl := cntF_le (loudB s) (nB s)
  have hn1 := hW.n1
  have hdl := dep_le hW _ hW.hn
  have hd1 := dep_ge1 s (hE s)
  refine lv_iconst (v := (nI 0)) hx hb dL_branches_0 (by decide) ?_
  refine lv_istore_n (lv' := [(1, .int (nI 0)), (0, .ref x0)]) hx hb dL_branches_1 rfl hl (by decide) rfl (fun ls hl => ?_)
  refine lv_iconst (v := (nI 0)) hx hb dL_branches_2 (by decide) ?_
  refine lv_istore_n (lv' := [(2, .int (nI 0)), (1, .int (nI 0)), (0, .ref x0)]) hx hb dL_branches_3 rfl hl (by decide) rfl (fun ls hl => ?_)
  refine lv_iconst (v := (nI 1)) hx hb dL_branches_4 (by decide) ?_
  refine lv_istore_n (lv' := [(3, .int (nI 1)), (2, .int (nI 0)), (1, .int (nI 0)), (0, .ref x0)]) hx hb dL_branches_5 rfl hl (by decide) rfl (fun ls hl => ?_)
  refine lv_iconst (v := (nI 0)) hx hb dL_branches_6 (by decide) ?_
  refine lv_istore (lv' := [(4, .int (nI 0)), (3, .int (nI 1)), (2, .int (nI 0)), (1, .int (nI 0)), (0, .ref x0)]) hx hb dL_branches_7 hl (by decide) rfl (fun ls hl => ?_)
  have loop9 : ∀ (fu : Nat) (b_ : Nat) (f_ : Row) (H : Heap) (locs : List Loc) (ls : Array Slot), (b_ ≤ nB s) → nB s - b_ < fu → va_P dg vwCl [(x0, .inr (7, [.ref xl, .ref xh, .ref xt, .ref xp, .ref xo, .ref xu, .ref xw])), (xl, .inr (1, [.ref xlc])), (xlc, .inl (tq.1, 1473, .inl c)), (xh, .inr (0, [.ref xhc, .int (nI st), .int (nI nx)])), (xhc, .inl (tq.1, 7365, .inl hc)), (xt, .inr (6, [.ref xtc, .int (nI tl)])), (xtc, .inl (tq.1, 100, .inl tx)), (xu, .inr (5, [.ref xus])), (xus, .inl (tq.1, 6, .inl f_))] H → va_D AA [(x0, .inr (7, [.ref xl, .ref xh, .ref xt, .ref xp, .ref xo, .ref xu, .ref xw])), (xl, .inr (1, [.ref xlc])), (xlc, .inl (tq.1, 1473, .inl c)), (xh, .inr (0, [.ref xhc, .int (nI st), .int (nI nx)])), (xhc, .inl (tq.1, 7365, .inl hc)), (xt, .inr (6, [.ref xtc, .int (nI tl)])), (xtc, .inl (tq.1, 100, .inl tx)), (xu, .inr (5, [.ref xus])), (xus, .inl (tq.1, 6, .inl f_))] → va_S AA sS.heap H locs → lv_has ls 9 [(0, .ref x0), (1, .int (nI (cntF (waitB s) b_))), (2, .int (nI (cntF (loudB s) b_))), (3, .int (nI 1)), (4, .int (nI b_))] → W pP ln eE (rmm 5 113) sS mM aA bB mT cC H locs 0 0 QQ (F0 mM 9 ls []) := by
    intro fu
    induction fu with
    | zero => intro b_ f_ H locs ls _ hm; exact absurd hm (Nat.not_lt_zero _)
    | succ fu ih9 =>
      intro b_ f_ H locs ls hinv hm hP hD hS hl
      refine lv_iload hx hb dL_branches_9 (lv_at hl 4 rfl) ?_
      refine lv_aload_n hx hb dL_branches_11 rfl (lv_at hl 0 rfl) ?_
      refine lv_iconst (v := (nI 3)) hx hb dL_branches_12 (by decide) ?_
      refine call_x (va_runV (As := [.int (nI 3)]) (rest := [.int (nI b_)]) ⟨hx, hb, hml, hown, hts⟩ (kX7_count ln dg tq (x0 := x0) (xl := xl) (xh := xh) (xt := xt) (xp := xp) (xo := xo) (xu := xu) (xw := xw) (xlc := xlc) (c := c) (s := s) (hF := hF) (xhc := xhc) (st := st) (nx := nx) (hc := hc) (xtc := xtc) (tl := tl) (tx := tx) (x := (nI 3)) H.size) (cwV 1 hts gL_branches_X7_count rfl rfl rfl hdX7_count ⟨Nat.le_of_ble_eq_true rfl, Nat.le_of_ble_eq_true rfl⟩) (preVR hK hN hP [0, 1, 2, 3, 4, 5, 6] rfl 0 rfl rfl [.int (nI 3)]) rfl rfl hl.1 rfl (lv_room (Nat.le_of_ble_eq_true rfl)) dL_branches_13 ⟨Nat.le_refl _, Nat.le_refl _⟩) hP hS hA (fun H locs hP hS => ?_)
      refine r_top (show (ctR s st tl (nI 3)) = (nI (nB s)) from ct_ (by omega)) ?_
      refine r_icmp_ge (tgt := 220) hx hb (nI_tI (by omega)) (nI_tI (by omega)) dL_branches_16 (by decide) (fun c16 => ?_) (fun c16 => ?_)
      · skip
        have hb_ : b_ = nB s := (by omega)
        subst hb_
        have hk1 := cntF_le (waitB s) (nB s)
        have hk3 := cntF_le (fun k => !sealB s k) (nS s)
        refine lv_iconst (v := (nI 0)) hx hb dL_branches_220 (by decide) ?_
        refine lv_istore (lv' := [(4, .int (nI 0)), (0, .ref x0), (1, .int (nI (cntF (waitB s) (nB s)))), (2, .int (nI (cntF (loudB s) (nB s)))), (3, .int (nI 1))]) hx hb dL_branches_221 hl (by decide) rfl (fun ls hl => ?_)
        refine lv_iconst (v := (nI 0)) hx hb dL_branches_223 (by decide) ?_
        refine lv_istore (lv' := [(5, .int (nI 0)), (4, .int (nI 0)), (0, .ref x0), (1, .int (nI (cntF (waitB s) (nB s)))), (2, .int (nI (cntF (loudB s) (nB s)))), (3, .int (nI 1))]) hx hb dL_branches_224 hl (by decide) rfl (fun ls hl => ?_)
        have loop226 : ∀ (fu : Nat) (k_ : Nat) (g_ : Row) (H : Heap) (locs : List Loc) (ls : Array Slot), (k_ ≤ nS s) → nS s - k_ < fu → va_P dg vwCl [(x0, .inr (7, [.ref xl, .ref xh, .ref xt, .ref xp, .ref xo, .ref xu, .ref xw])), (xl, .inr (1, [.ref xlc])), (xlc, .inl (tq.1, 1473, .inl c)), (xh, .inr (0, [.ref xhc, .int (nI st), .int (nI nx)])), (xhc, .inl (tq.1, 7365, .inl hc)), (xt, .inr (6, [.ref xtc, .int (nI tl)])), (xtc, .inl (tq.1, 100, .inl tx)), (xu, .inr (5, [.ref xus])), (xus, .inl (tq.1, 6, .inl g_))] H → va_D AA [(x0, .inr (7, [.ref xl, .ref xh, .ref xt, .ref xp, .ref xo, .ref xu, .ref xw])), (xl, .inr (1, [.ref xlc])), (xlc, .inl (tq.1, 1473, .inl c)), (xh, .inr (0, [.ref xhc, .int (nI st), .int (nI nx)])), (xhc, .inl (tq.1, 7365, .inl hc)), (xt, .inr (6, [.ref xtc, .int (nI tl)])), (xtc, .inl (tq.1, 100, .inl tx)), (xu, .inr (5, [.ref xus])), (xus, .inl (tq.1, 6, .inl g_))] → va_S AA sS.heap H locs → lv_has ls 9 [(0, .ref x0), (1, .int (nI (cntF (waitB s) (nB s)))), (2, .int (nI (cntF (loudB s) (nB s)))), (3, .int (nI 1)), (4, .int (nI (cntF (fun k => !sealB s k) k_))), (5, .int (nI k_))] → W pP ln eE (rmm 5 113) sS mM aA bB mT cC H locs 0 0 QQ (F0 mM 226 ls []) := by
          intro fu
          induction fu with
          | zero => intro k_ g_ H locs ls _ hm; exact absurd hm (Nat.not_lt_zero _)
          | succ fu ih226 =>
            intro k_ g_ H locs ls hinv hm hP hD hS hl
            refine lv_iload hx hb dL_branches_226 (lv_at hl 5 rfl) ?_
            refine lv_aload_n hx hb dL_branches_228 rfl (lv_at hl 0 rfl) ?_
            refine lv_bipush (v := (nI 7)) hx hb dL_branches_229 (by decide) ?_
            refine call_x (va_runV (As := [.int (nI 7)]) (rest := [.int (nI k_)]) ⟨hx, hb, hml, hown, hts⟩ (kX7_count ln dg tq (x0 := x0) (xl := xl) (xh := xh) (xt := xt) (xp := xp) (xo := xo) (xu := xu) (xw := xw) (xlc := xlc) (c := c) (s := s) (hF := hF) (xhc := xhc) (st := st) (nx := nx) (hc := hc) (xtc := xtc) (tl := tl) (tx := tx) (x := (nI 7)) H.size) (cwV 1 hts gL_branches_X7_count rfl rfl rfl hdX7_count ⟨Nat.le_of_ble_eq_true rfl, Nat.le_of_ble_eq_true rfl⟩) (preVR hK hN hP [0, 1, 2, 3, 4, 5, 6] rfl 0 rfl rfl [.int (nI 7)]) rfl rfl hl.1 rfl (lv_room (Nat.le_of_ble_eq_true rfl)) dL_branches_231 ⟨Nat.le_refl _, Nat.le_refl _⟩) hP hS hA (fun H locs hP hS => ?_)
            refine r_top (show (ctR s st tl (nI 7)) = (nI (nS s)) from ct_ (by omega)) ?_
            refine r_icmp_ge (tgt := 303) hx hb (nI_tI (by omega)) (nI_tI (by omega)) dL_branches_234 (by decide) (fun c234 => ?_) (fun c234 => ?_)
            · skip
              have hk_ : k_ = nS s := (by omega)
              subst hk_
              refine lv_iload_n hx hb dL_branches_303 rfl (lv_at hl 3 rfl) ?_
              refine r_if_eq (tgt := 340) hx hb (nI_tI (by omega)) dL_branches_304 (by decide) (fun c304 => False.elim (by omega)) (fun c304 => ?_)
              refine lv_aload_n hx hb dL_branches_307 rfl (lv_at hl 0 rfl) ?_
              refine lv_iconst (v := (nI 4)) hx hb dL_branches_308 (by decide) ?_
              refine call_x (va_runV (As := [.int (nI 4)]) (rest := []) ⟨hx, hb, hml, hown, hts⟩ (kX7_count ln dg tq (x0 := x0) (xl := xl) (xh := xh) (xt := xt) (xp := xp) (xo := xo) (xu := xu) (xw := xw) (xlc := xlc) (c := c) (s := s) (hF := hF) (xhc := xhc) (st := st) (nx := nx) (hc := hc) (xtc := xtc) (tl := tl) (tx := tx) (x := (nI 4)) H.size) (cwV 1 hts gL_branches_X7_count rfl rfl rfl hdX7_count ⟨Nat.le_of_ble_eq_true rfl, Nat.le_of_ble_eq_true rfl⟩) (preVR hK hN hP [0, 1, 2, 3, 4, 5, 6] rfl 0 rfl rfl [.int (nI 4)]) rfl rfl hl.1 rfl (lv_room (Nat.le_of_ble_eq_true rfl)) dL_branches_309 ⟨Nat.le_refl _, Nat.le_refl _⟩) hP hS hA (fun H locs hP hS => ?_)
              refine r_top (show (ctR s st tl (nI 4)) = (nI (cntF (waitB s) (nB s))) from ct_ (by omega)) ?_
              refine lv_iload_n hx hb dL_branches_312 rfl (lv_at hl 1 rfl) ?_
              refine r_icmp_ne (tgt := 340) hx hb (nI_tI (by omega)) (nI_tI (by omega)) dL_branches_313 (by decide) (fun c313 => False.elim (by exact c313 rfl)) (fun c313 => ?_)
              refine lv_aload_n hx hb dL_branches_316 rfl (lv_at hl 0 rfl) ?_
              refine lv_iconst (v := (nI 5)) hx hb dL_branches_317 (by decide) ?_
              refine call_x (va_runV (As := [.int (nI 5)]) (rest := []) ⟨hx, hb, hml, hown, hts⟩ (kX7_count ln dg tq (x0 := x0) (xl := xl) (xh := xh) (xt := xt) (xp := xp) (xo := xo) (xu := xu) (xw := xw) (xlc := xlc) (c := c) (s := s) (hF := hF) (xhc := xhc) (st := st) (nx := nx) (hc := hc) (xtc := xtc) (tl := tl) (tx := tx) (x := (nI 5)) H.size) (cwV 1 hts gL_branches_X7_count rfl rfl rfl hdX7_count ⟨Nat.le_of_ble_eq_true rfl, Nat.le_of_ble_eq_true rfl⟩) (preVR hK hN hP [0, 1, 2, 3, 4, 5, 6] rfl 0 rfl rfl [.int (nI 5)]) rfl rfl hl.1 rfl (lv_room (Nat.le_of_ble_eq_true rfl)) dL_branches_318 ⟨Nat.le_refl _, Nat.le_refl _⟩) hP hS hA (fun H locs hP hS => ?_)
              refine r_top (show (ctR s st tl (nI 5)) = (nI (cntF (loudB s) (nB s))) from ct_ (by omega)) ?_
              refine lv_iload_n hx hb dL_branches_321 rfl (lv_at hl 2 rfl) ?_
              refine r_icmp_ne (tgt := 340) hx hb (nI_tI (by omega)) (nI_tI (by omega)) dL_branches_322 (by decide) (fun c322 => False.elim (by exact c322 rfl)) (fun c322 => ?_)
              refine lv_aload_n hx hb dL_branches_325 rfl (lv_at hl 0 rfl) ?_
              refine lv_bipush (v := (nI 8)) hx hb dL_branches_326 (by decide) ?_
              refine call_x (va_runV (As := [.int (nI 8)]) (rest := []) ⟨hx, hb, hml, hown, hts⟩ (kX7_count ln dg tq (x0 := x0) (xl := xl) (xh := xh) (xt := xt) (xp := xp) (xo := xo) (xu := xu) (xw := xw) (xlc := xlc) (c := c) (s := s) (hF := hF) (xhc := xhc) (st := st) (nx := nx) (hc := hc) (xtc := xtc) (tl := tl) (tx := tx) (x := (nI 8)) H.size) (cwV 1 hts gL_branches_X7_count rfl rfl rfl hdX7_count ⟨Nat.le_of_ble_eq_true rfl, Nat.le_of_ble_eq_true rfl⟩) (preVR hK hN hP [0, 1, 2, 3, 4, 5, 6] rfl 0 rfl rfl [.int (nI 8)]) rfl rfl hl.1 rfl (lv_room (Nat.le_of_ble_eq_true rfl)) dL_branches_328 ⟨Nat.le_refl _, Nat.le_refl _⟩) hP hS hA (fun H locs hP hS => ?_)
              refine r_top (show (ctR s st tl (nI 8)) = (nI (cntF (fun k => !sealB s k) (nS s))) from ct_ (by omega)) ?_
              refine lv_iload hx hb dL_branches_331 (lv_at hl 4 rfl) ?_
              refine r_icmp_ne (tgt := 340) hx hb (nI_tI (by omega)) (nI_tI (by omega)) dL_branches_333 (by decide) (fun c333 => False.elim (by exact c333 rfl)) (fun c333 => ?_)
              refine lv_iconst (v := (nI 1)) hx hb dL_branches_336 (by decide) ?_
              refine lv_goto (tgt := 341) hx hb dL_branches_337 (by decide) ?_
              exact hret (nI 1) (g_) H locs _ ls (rfl) rfl (hP.sub [0, 1, 2, 3, 4, 5, 6, 7, 8] rfl) (hD.sub [0, 1, 2, 3, 4, 5, 6, 7, 8] (by decide) rfl) hS dL_branches_341
            · skip
              refine lv_iload_n hx hb dL_branches_237 rfl (lv_at hl 3 rfl) ?_
              refine r_if_eq (tgt := 303) hx hb (nI_tI (by omega)) dL_branches_238 (by decide) (fun c238 => False.elim (by omega)) (fun c238 => ?_)
              have hse := hW.sEl (k := k_) (by omega)
              refine lv_aload_n hx hb dL_branches_241 rfl (lv_at hl 0 rfl) ?_
              refine lv_aload_n hx hb dL_branches_242 rfl (lv_at hl 0 rfl) ?_
              refine lv_iload hx hb dL_branches_243 (lv_at hl 5 rfl) ?_
              refine lv_iconst (v := (nI 0)) hx hb dL_branches_245 (by decide) ?_
              refine call_x (va_runV (As := [.int (nI k_), .int (nI 0)]) (rest := [.ref x0]) ⟨hx, hb, hml, hown, hts⟩ (kX7_sealed ln dg tq (x0 := x0) (xl := xl) (xh := xh) (xt := xt) (xp := xp) (xo := xo) (xu := xu) (xw := xw) (xlc := xlc) (c := c) (s := s) (hF := hF) (x := (nI k_)) (w := (nI 0)) H.size) (cwV 2 hts gL_branches_X7_sealed rfl rfl rfl hdX7_sealed ⟨Nat.le_of_ble_eq_true rfl, Nat.le_of_ble_eq_true rfl⟩) (preVR hK hN hP [0, 1, 2] rfl 0 rfl rfl [.int (nI k_), .int (nI 0)]) rfl rfl hl.1 rfl (lv_room (Nat.le_of_ble_eq_true rfl)) dL_branches_246 ⟨Nat.le_refl _, Nat.le_refl _⟩) hP hS hA (fun H locs hP hS => ?_)
              refine r_top (show (sdR s (nI k_) (nI 0)) = (nI (sE s k_)) from (sd_ (by omega) (by omega) (by omega))) ?_
              refine lv_iconst (v := (nI 5)) hx hb dL_branches_249 (by decide) ?_
              refine call_w (wr := [(xh, .inr (0, [.ref xhc, .int (nI st), .int (nI nx)])), (xhc, .inl (tq.1, 7365, .inl hc)), (xt, .inr (6, [.ref xtc, .int (nI tl)])), (xtc, .inl (tq.1, 100, .inl tx))]) (va_runV (As := [.int (nI (sE s k_)), .int (nI 5)]) (rest := []) ⟨hx, hb, hml, hown, hts⟩ (kX7_entry ln dg tq (x0 := x0) (xl := xl) (xh := xh) (xt := xt) (xp := xp) (xo := xo) (xu := xu) (xw := xw) (xlc := xlc) (c := c) (s := s) (hF := hF) (xus := xus) (uf := g_) (x := (nI (sE s k_))) (w := (nI 5)) H.size) (cwV 2 hts gL_branches_X7_entry rfl rfl rfl hdX7_entry ⟨Nat.le_of_ble_eq_true rfl, Nat.le_of_ble_eq_true rfl⟩) (preVB hK hN hP hD [0, 1, 2, 7, 8] rfl rfl rfl 0 rfl rfl [.int (nI (sE s k_)), .int (nI 5)]) rfl rfl hl.1 rfl (lv_room (Nat.le_of_ble_eq_true rfl)) dL_branches_250 ⟨Nat.le_refl _, Nat.le_refl _⟩) hP hD hS hA [0, 1, 2, 7, 8] [3, 4, 5, 6] rfl rfl (by decide) (by decide) (fun r250 u250 H locs hw250 hP hD hS => ?_)
              obtain ⟨uf2250, rfl⟩ : ∃ z, z = u250 := ⟨_, rfl⟩
              have hP : va_P dg vwCl [(xh, .inr (0, [.ref xhc, .int (nI st), .int (nI nx)])), (xhc, .inl (tq.1, 7365, .inl hc)), (xt, .inr (6, [.ref xtc, .int (nI tl)])), (xtc, .inl (tq.1, 100, .inl tx)), (x0, .inr (7, [.ref xl, .ref xh, .ref xt, .ref xp, .ref xo, .ref xu, .ref xw])), (xl, .inr (1, [.ref xlc])), (xlc, .inl (tq.1, 1473, .inl c)), (xu, .inr (5, [.ref xus])), (xus, .inl (tq.1, 6, .inl uf2250))] H := hP
              have hD : va_D AA [(xh, .inr (0, [.ref xhc, .int (nI st), .int (nI nx)])), (xhc, .inl (tq.1, 7365, .inl hc)), (xt, .inr (6, [.ref xtc, .int (nI tl)])), (xtc, .inl (tq.1, 100, .inl tx)), (x0, .inr (7, [.ref xl, .ref xh, .ref xt, .ref xp, .ref xo, .ref xu, .ref xw])), (xl, .inr (1, [.ref xlc])), (xlc, .inl (tq.1, 1473, .inl c)), (xu, .inr (5, [.ref xus])), (xus, .inl (tq.1, 6, .inl uf2250))] := hD
              subst hw250
              refine r_top (show (etR s (nI (sE s k_)) (nI 5)) = (me s (sE s k_) 5) from (et_ (by omega) (by omega) (by omega))) ?_
              refine lv_aload_n hx hb dL_branches_253 rfl (lv_at hl 0 rfl) ?_
              refine lv_iload hx hb dL_branches_254 (lv_at hl 5 rfl) ?_
              refine lv_iconst (v := (nI 1)) hx hb dL_branches_256 (by decide) ?_
              refine call_x (va_runV (As := [.int (nI k_), .int (nI 1)]) (rest := [.int (me s (sE s k_) 5)]) ⟨hx, hb, hml, hown, hts⟩ (kX7_sealed ln dg tq (x0 := x0) (xl := xl) (xh := xh) (xt := xt) (xp := xp) (xo := xo) (xu := xu) (xw := xw) (xlc := xlc) (c := c) (s := s) (hF := hF) (x := (nI k_)) (w := (nI 1)) H.size) (cwV 2 hts gL_branches_X7_sealed rfl rfl rfl hdX7_sealed ⟨Nat.le_of_ble_eq_true rfl, Nat.le_of_ble_eq_true rfl⟩) (preVR hK hN hP [4, 5, 6] rfl 4 rfl rfl [.int (nI k_), .int (nI 1)]) rfl rfl hl.1 rfl (lv_room (Nat.le_of_ble_eq_true rfl)) dL_branches_257 ⟨Nat.le_refl _, Nat.le_refl _⟩) hP hS hA (fun H locs hP hS => ?_)
              refine r_top (show (sdR s (nI k_) (nI 1)) = (msl s k_ 1) from (sd_ (by omega) (by omega) (by omega))) ?_
              refine lv_icmp_ne (tgt := 267) hx hb dL_branches_260 (by decide) (fun c260 => ?_) (fun c260 => ?_)
              · skip
                refine lv_iconst (v := (nI 0)) hx hb dL_branches_267 (by decide) ?_
                refine lv_istore (lv' := [(6, .int (nI 0)), (0, .ref x0), (1, .int (nI (cntF (waitB s) (nB s)))), (2, .int (nI (cntF (loudB s) (nB s)))), (3, .int (nI 1)), (4, .int (nI (cntF (fun k => !sealB s k) k_))), (5, .int (nI k_))]) hx hb dL_branches_268 hl (by decide) rfl (fun ls hl => ?_)
                refine lv_iload hx hb dL_branches_270 (lv_at hl 5 rfl) ?_
                refine lv_iconst (v := (nI 1)) hx hb dL_branches_272 (by decide) ?_
                refine lv_iload hx hb dL_branches_273 (lv_at hl 0 rfl) ?_
                refine r_isub_n hx hb (by omega) dL_branches_275 ?_
                refine r_iadd_n hx hb dL_branches_276 ?_
                refine lv_istore (lv' := [(4, .int (nI ((cntF (fun k => !sealB s k) k_) + (1 - 0)))), (6, .int (nI 0)), (0, .ref x0), (1, .int (nI (cntF (waitB s) (nB s)))), (2, .int (nI (cntF (loudB s) (nB s)))), (3, .int (nI 1)), (5, .int (nI k_))]) hx hb dL_branches_277 hl (by decide) rfl (fun ls hl => ?_)
                have hl : lv_has ls 9 [(4, .int (nI (cntF (fun k => !sealB s k) (k_ + 1)))), (6, .int (nI 0)), (0, .ref x0), (1, .int (nI (cntF (waitB s) (nB s)))), (2, .int (nI (cntF (loudB s) (nB s)))), (3, .int (nI 1)), (5, .int (nI k_))] := by have el : (nI ((cntF (fun k => !sealB s k) k_) + (1 - 0))) = (nI (cntF (fun k => !sealB s k) (k_ + 1))) := (cnt_b_f (decide_eq_false c260)); rw [← el]; exact hl
                refine lv_aload_n hx hb dL_branches_279 rfl (lv_at hl 2 rfl) ?_
                refine lv_iload hx hb dL_branches_280 (lv_at hl 6 rfl) ?_
                refine lv_iconst (v := (nI 2)) hx hb dL_branches_282 (by decide) ?_
                refine call_x (va_runV (As := [.int (nI k_), .int (nI 2)]) (rest := []) ⟨hx, hb, hml, hown, hts⟩ (kX7_sealed ln dg tq (x0 := x0) (xl := xl) (xh := xh) (xt := xt) (xp := xp) (xo := xo) (xu := xu) (xw := xw) (xlc := xlc) (c := c) (s := s) (hF := hF) (x := (nI k_)) (w := (nI 2)) H.size) (cwV 2 hts gL_branches_X7_sealed rfl rfl rfl hdX7_sealed ⟨Nat.le_of_ble_eq_true rfl, Nat.le_of_ble_eq_true rfl⟩) (preVR hK hN hP [4, 5, 6] rfl 4 rfl rfl [.int (nI k_), .int (nI 2)]) rfl rfl hl.1 rfl (lv_room (Nat.le_of_ble_eq_true rfl)) dL_branches_283 ⟨Nat.le_refl _, Nat.le_refl _⟩) hP hS hA (fun H locs hP hS => ?_)
                refine r_top (show (sdR s (nI k_) (nI 2)) = (nI 0) from (sd_ (by omega) (by omega) (by omega)).trans (sd2_f (decide_eq_false c260))) ?_
                refine lv_iload hx hb dL_branches_286 (lv_at hl 1 rfl) ?_
                refine r_icmp_ne (tgt := 295) hx hb (nI_tI (by omega)) (nI_tI (by omega)) dL_branches_288 (by decide) (fun c288 => False.elim (by omega)) (fun c288 => ?_)
                refine lv_iconst (v := (nI 1)) hx hb dL_branches_291 (by decide) ?_
                refine lv_goto (tgt := 296) hx hb dL_branches_292 (by decide) ?_
                refine lv_istore_n (lv' := [(3, .int (nI 1)), (4, .int (nI (cntF (fun k => !sealB s k) (k_ + 1)))), (6, .int (nI 0)), (0, .ref x0), (1, .int (nI (cntF (waitB s) (nB s)))), (2, .int (nI (cntF (loudB s) (nB s)))), (5, .int (nI k_))]) hx hb dL_branches_296 rfl hl (by decide) rfl (fun ls hl => ?_)
                refine lv_iinc (v := (nI (k_ + 1))) (lv' := [(5, .int (nI (k_ + 1))), (3, .int (nI 1)), (4, .int (nI (cntF (fun k => !sealB s k) (k_ + 1)))), (6, .int (nI 0)), (0, .ref x0), (1, .int (nI (cntF (waitB s) (nB s)))), (2, .int (nI (cntF (loudB s) (nB s))))]) hx hb dL_branches_297 hl (k := 6) rfl (nI_add _ _) (by decide) rfl (fun ls hl => ?_)
                refine lv_goto (tgt := 226) hx hb dL_branches_300 (by decide) ?_
                exact ih226 (k_ + 1) uf2250 H locs ls (by omega) (by omega) (hP.sub [4, 5, 6, 0, 1, 2, 3, 7, 8] rfl) (hD.sub [4, 5, 6, 0, 1, 2, 3, 7, 8] (by decide) rfl) hS (lv_sub hl [4, 5, 6, 1, 2, 0] rfl)
              · skip
                refine lv_iconst (v := (nI 1)) hx hb dL_branches_263 (by decide) ?_
                refine lv_goto (tgt := 268) hx hb dL_branches_264 (by decide) ?_
                refine lv_istore (lv' := [(6, .int (nI 1)), (0, .ref x0), (1, .int (nI (cntF (waitB s) (nB s)))), (2, .int (nI (cntF (loudB s) (nB s)))), (3, .int (nI 1)), (4, .int (nI (cntF (fun k => !sealB s k) k_))), (5, .int (nI k_))]) hx hb dL_branches_268 hl (by decide) rfl (fun ls hl => ?_)
                refine lv_iload hx hb dL_branches_270 (lv_at hl 5 rfl) ?_
                refine lv_iconst (v := (nI 1)) hx hb dL_branches_272 (by decide) ?_
                refine lv_iload hx hb dL_branches_273 (lv_at hl 0 rfl) ?_
                refine r_isub_n hx hb (by omega) dL_branches_275 ?_
                refine r_iadd_n hx hb dL_branches_276 ?_
                refine lv_istore (lv' := [(4, .int (nI ((cntF (fun k => !sealB s k) k_) + (1 - 1)))), (6, .int (nI 1)), (0, .ref x0), (1, .int (nI (cntF (waitB s) (nB s)))), (2, .int (nI (cntF (loudB s) (nB s)))), (3, .int (nI 1)), (5, .int (nI k_))]) hx hb dL_branches_277 hl (by decide) rfl (fun ls hl => ?_)
                have hl : lv_has ls 9 [(4, .int (nI (cntF (fun k => !sealB s k) (k_ + 1)))), (6, .int (nI 1)), (0, .ref x0), (1, .int (nI (cntF (waitB s) (nB s)))), (2, .int (nI (cntF (loudB s) (nB s)))), (3, .int (nI 1)), (5, .int (nI k_))] := by have el : (nI ((cntF (fun k => !sealB s k) k_) + (1 - 1))) = (nI (cntF (fun k => !sealB s k) (k_ + 1))) := (cnt_b_t (decide_eq_true c260)); rw [← el]; exact hl
                refine lv_aload_n hx hb dL_branches_279 rfl (lv_at hl 2 rfl) ?_
                refine lv_iload hx hb dL_branches_280 (lv_at hl 6 rfl) ?_
                refine lv_iconst (v := (nI 2)) hx hb dL_branches_282 (by decide) ?_
                refine call_x (va_runV (As := [.int (nI k_), .int (nI 2)]) (rest := []) ⟨hx, hb, hml, hown, hts⟩ (kX7_sealed ln dg tq (x0 := x0) (xl := xl) (xh := xh) (xt := xt) (xp := xp) (xo := xo) (xu := xu) (xw := xw) (xlc := xlc) (c := c) (s := s) (hF := hF) (x := (nI k_)) (w := (nI 2)) H.size) (cwV 2 hts gL_branches_X7_sealed rfl rfl rfl hdX7_sealed ⟨Nat.le_of_ble_eq_true rfl, Nat.le_of_ble_eq_true rfl⟩) (preVR hK hN hP [4, 5, 6] rfl 4 rfl rfl [.int (nI k_), .int (nI 2)]) rfl rfl hl.1 rfl (lv_room (Nat.le_of_ble_eq_true rfl)) dL_branches_283 ⟨Nat.le_refl _, Nat.le_refl _⟩) hP hS hA (fun H locs hP hS => ?_)
                refine r_top (show (sdR s (nI k_) (nI 2)) = (nI 1) from (sd_ (by omega) (by omega) (by omega)).trans (sd2_t (decide_eq_true c260))) ?_
                refine lv_iload hx hb dL_branches_286 (lv_at hl 1 rfl) ?_
                refine r_icmp_ne (tgt := 295) hx hb (nI_tI (by omega)) (nI_tI (by omega)) dL_branches_288 (by decide) (fun c288 => False.elim (by omega)) (fun c288 => ?_)
                refine lv_iconst (v := (nI 1)) hx hb dL_branches_291 (by decide) ?_
                refine lv_goto (tgt := 296) hx hb dL_branches_292 (by decide) ?_
                refine lv_istore_n (lv' := [(3, .int (nI 1)), (4, .int (nI (cntF (fun k => !sealB s k) (k_ + 1)))), (6, .int (nI 1)), (0, .ref x0), (1, .int (nI (cntF (waitB s) (nB s)))), (2, .int (nI (cntF (loudB s) (nB s)))), (5, .int (nI k_))]) hx hb dL_branches_296 rfl hl (by decide) rfl (fun ls hl => ?_)
                refine lv_iinc (v := (nI (k_ + 1))) (lv' := [(5, .int (nI (k_ + 1))), (3, .int (nI 1)), (4, .int (nI (cntF (fun k => !sealB s k) (k_ + 1)))), (6, .int (nI 1)), (0, .ref x0), (1, .int (nI (cntF (waitB s) (nB s)))), (2, .int (nI (cntF (loudB s) (nB s))))]) hx hb dL_branches_297 hl (k := 6) rfl (nI_add _ _) (by decide) rfl (fun ls hl => ?_)
                refine lv_goto (tgt := 226) hx hb dL_branches_300 (by decide) ?_
                exact ih226 (k_ + 1) uf2250 H locs ls (by omega) (by omega) (hP.sub [4, 5, 6, 0, 1, 2, 3, 7, 8] rfl) (hD.sub [4, 5, 6, 0, 1, 2, 3, 7, 8] (by decide) rfl) hS (lv_sub hl [4, 5, 6, 1, 2, 0] rfl)
        exact loop226 _ 0 f_ H locs ls (by omega) (Nat.lt_succ_self _) (hP.sub [0, 1, 2, 3, 4, 5, 6, 7, 8] rfl) (hD.sub [0, 1, 2, 3, 4, 5, 6, 7, 8] (by decide) rfl) hS (lv_sub hl [2, 3, 4, 5, 1, 0] rfl)
      · skip
        refine lv_iload_n hx hb dL_branches_19 rfl (lv_at hl 3 rfl) ?_
        refine r_if_eq (tgt := 220) hx hb (nI_tI (by omega)) dL_branches_20 (by decide) (fun c20 => False.elim (by omega)) (fun c20 => ?_)
        have hlf := hW.lfl (b := b_) (by omega)
        have hm1 := hW.mn1 (b := b_) (by omega)
        obtain ⟨hf1, hf2, hf3⟩ := br_first hW (b := b_) (by omega)
        obtain ⟨hq1, hq2⟩ := meet_on hW hlf hW.hn
        have hdf := dep_le hW _ hf1
        have hdL := dep_le hW _ hlf
        refine lv_aload_n hx hb dL_branches_23 rfl (lv_at hl 0 rfl) ?_
        refine lv_iload hx hb dL_branches_24 (lv_at hl 4 rfl) ?_
        refine lv_iconst (v := (nI 0)) hx hb dL_branches_26 (by decide) ?_
        refine call_x (va_runV (As := [.int (nI b_), .int (nI 0)]) (rest := []) ⟨hx, hb, hml, hown, hts⟩ (kX7_branch ln dg tq (x0 := x0) (xl := xl) (xh := xh) (xt := xt) (xp := xp) (xo := xo) (xu := xu) (xw := xw) (xlc := xlc) (c := c) (s := s) (hF := hF) (x := (nI b_)) (w := (nI 0)) H.size) (cwV 2 hts gL_branches_X7_branch rfl rfl rfl hdX7_branch ⟨Nat.le_of_ble_eq_true rfl, Nat.le_of_ble_eq_true rfl⟩) (preVR hK hN hP [0, 1, 2] rfl 0 rfl rfl [.int (nI b_), .int (nI 0)]) rfl rfl hl.1 rfl (lv_room (Nat.le_of_ble_eq_true rfl)) dL_branches_27 ⟨Nat.le_refl _, Nat.le_refl _⟩) hP hS hA (fun H locs hP hS => ?_)
        refine r_top (show (brR s (nI b_) (nI 0)) = (nI (lf s b_)) from (br_ (by omega) (by omega) (by omega))) ?_
        refine lv_istore (lv' := [(5, .int (nI (lf s b_))), (0, .ref x0), (1, .int (nI (cntF (waitB s) b_))), (2, .int (nI (cntF (loudB s) b_))), (3, .int (nI 1)), (4, .int (nI b_))]) hx hb dL_branches_30 hl (by decide) rfl (fun ls hl => ?_)
        by_cases hld : loudB s b_ = true
        · skip
          refine lv_aload_n hx hb dL_branches_32 rfl (lv_at hl 1 rfl) ?_
          refine lv_iload hx hb dL_branches_33 (lv_at hl 5 rfl) ?_
          refine lv_iconst (v := (nI 4)) hx hb dL_branches_35 (by decide) ?_
          refine call_x (va_runV (As := [.int (nI b_), .int (nI 4)]) (rest := []) ⟨hx, hb, hml, hown, hts⟩ (kX7_branch ln dg tq (x0 := x0) (xl := xl) (xh := xh) (xt := xt) (xp := xp) (xo := xo) (xu := xu) (xw := xw) (xlc := xlc) (c := c) (s := s) (hF := hF) (x := (nI b_)) (w := (nI 4)) H.size) (cwV 2 hts gL_branches_X7_branch rfl rfl rfl hdX7_branch ⟨Nat.le_of_ble_eq_true rfl, Nat.le_of_ble_eq_true rfl⟩) (preVR hK hN hP [0, 1, 2] rfl 0 rfl rfl [.int (nI b_), .int (nI 4)]) rfl rfl hl.1 rfl (lv_room (Nat.le_of_ble_eq_true rfl)) dL_branches_36 ⟨Nat.le_refl _, Nat.le_refl _⟩) hP hS hA (fun H locs hP hS => ?_)
          refine r_top (show (brR s (nI b_) (nI 4)) = (brN s b_ 4) from (br_ (by omega) (by omega) (by omega))) ?_
          refine r_top (show (brN s b_ 4) = (nI 1) from brN_l hld) ?_
          refine lv_istore (lv' := [(6, .int (nI 1)), (5, .int (nI (lf s b_))), (0, .ref x0), (1, .int (nI (cntF (waitB s) b_))), (2, .int (nI (cntF (loudB s) b_))), (3, .int (nI 1)), (4, .int (nI b_))]) hx hb dL_branches_39 hl (by decide) rfl (fun ls hl => ?_)
          refine lv_aload_n hx hb dL_branches_41 rfl (lv_at hl 2 rfl) ?_
          refine lv_iload hx hb dL_branches_42 (lv_at hl 6 rfl) ?_
          refine lv_iconst (v := (nI 5)) hx hb dL_branches_44 (by decide) ?_
          refine call_x (va_runV (As := [.int (nI b_), .int (nI 5)]) (rest := []) ⟨hx, hb, hml, hown, hts⟩ (kX7_branch ln dg tq (x0 := x0) (xl := xl) (xh := xh) (xt := xt) (xp := xp) (xo := xo) (xu := xu) (xw := xw) (xlc := xlc) (c := c) (s := s) (hF := hF) (x := (nI b_)) (w := (nI 5)) H.size) (cwV 2 hts gL_branches_X7_branch rfl rfl rfl hdX7_branch ⟨Nat.le_of_ble_eq_true rfl, Nat.le_of_ble_eq_true rfl⟩) (preVR hK hN hP [0, 1, 2] rfl 0 rfl rfl [.int (nI b_), .int (nI 5)]) rfl rfl hl.1 rfl (lv_room (Nat.le_of_ble_eq_true rfl)) dL_branches_45 ⟨Nat.le_refl _, Nat.le_refl _⟩) hP hS hA (fun H locs hP hS => ?_)
          refine r_top (show (brR s (nI b_) (nI 5)) = (nI (meet s (lf s b_) (hE s))) from (br_ (by omega) (by omega) (by omega))) ?_
          refine lv_istore (lv' := [(7, .int (nI (meet s (lf s b_) (hE s)))), (6, .int (nI 1)), (5, .int (nI (lf s b_))), (0, .ref x0), (1, .int (nI (cntF (waitB s) b_))), (2, .int (nI (cntF (loudB s) b_))), (3, .int (nI 1)), (4, .int (nI b_))]) hx hb dL_branches_48 hl (by decide) rfl (fun ls hl => ?_)
          refine lv_iload_n hx hb dL_branches_50 rfl (lv_at hl 4 rfl) ?_
          refine lv_iload hx hb dL_branches_51 (lv_at hl 1 rfl) ?_
          refine lv_iconst (v := (nI 2)) hx hb dL_branches_53 (by decide) ?_
          refine r_icmp_ge (tgt := 61) hx hb (nI_tI (by omega)) (nI_tI (by omega)) dL_branches_54 (by decide) (fun c54 => False.elim (by omega)) (fun c54 => ?_)
          refine lv_iconst (v := (nI 1)) hx hb dL_branches_57 (by decide) ?_
          refine lv_goto (tgt := 62) hx hb dL_branches_58 (by decide) ?_
          refine r_iadd_n hx hb dL_branches_62 ?_
          refine lv_istore_n (lv' := [(1, .int (nI ((cntF (waitB s) b_) + 1))), (7, .int (nI (meet s (lf s b_) (hE s)))), (6, .int (nI 1)), (5, .int (nI (lf s b_))), (0, .ref x0), (2, .int (nI (cntF (loudB s) b_))), (3, .int (nI 1)), (4, .int (nI b_))]) hx hb dL_branches_63 rfl hl (by decide) rfl (fun ls hl => ?_)
          have hl : lv_has ls 9 [(1, .int (nI (cntF (waitB s) (b_ + 1)))), (7, .int (nI (meet s (lf s b_) (hE s)))), (6, .int (nI 1)), (5, .int (nI (lf s b_))), (0, .ref x0), (2, .int (nI (cntF (loudB s) b_))), (3, .int (nI 1)), (4, .int (nI b_))] := by have el : (nI ((cntF (waitB s) b_) + 1)) = (nI (cntF (waitB s) (b_ + 1))) := (cnt_s_t (loud_t hld).1); rw [← el]; exact hl
          refine lv_iload_n hx hb dL_branches_64 rfl (lv_at hl 5 rfl) ?_
          refine lv_iload hx hb dL_branches_65 (lv_at hl 2 rfl) ?_
          refine lv_iconst (v := (nI 1)) hx hb dL_branches_67 (by decide) ?_
          refine r_icmp_ne (tgt := 75) hx hb (nI_tI (by omega)) (nI_tI (by omega)) dL_branches_68 (by decide) (fun c68 => False.elim (by omega)) (fun c68 => ?_)
          refine lv_iconst (v := (nI 1)) hx hb dL_branches_71 (by decide) ?_
          refine lv_goto (tgt := 76) hx hb dL_branches_72 (by decide) ?_
          refine r_iadd_n hx hb dL_branches_76 ?_
          refine lv_istore_n (lv' := [(2, .int (nI ((cntF (loudB s) b_) + 1))), (1, .int (nI (cntF (waitB s) (b_ + 1)))), (7, .int (nI (meet s (lf s b_) (hE s)))), (6, .int (nI 1)), (5, .int (nI (lf s b_))), (0, .ref x0), (3, .int (nI 1)), (4, .int (nI b_))]) hx hb dL_branches_77 rfl hl (by decide) rfl (fun ls hl => ?_)
          have hl : lv_has ls 9 [(2, .int (nI (cntF (loudB s) (b_ + 1)))), (1, .int (nI (cntF (waitB s) (b_ + 1)))), (7, .int (nI (meet s (lf s b_) (hE s)))), (6, .int (nI 1)), (5, .int (nI (lf s b_))), (0, .ref x0), (3, .int (nI 1)), (4, .int (nI b_))] := by have el : (nI ((cntF (loudB s) b_) + 1)) = (nI (cntF (loudB s) (b_ + 1))) := (cnt_s_t hld); rw [← el]; exact hl
          refine lv_aload_n hx hb dL_branches_78 rfl (lv_at hl 5 rfl) ?_
          refine lv_iload hx hb dL_branches_79 (lv_at hl 7 rfl) ?_
          refine lv_iconst (v := (nI 2)) hx hb dL_branches_81 (by decide) ?_
          refine call_x (va_runV (As := [.int (nI b_), .int (nI 2)]) (rest := []) ⟨hx, hb, hml, hown, hts⟩ (kX7_branch ln dg tq (x0 := x0) (xl := xl) (xh := xh) (xt := xt) (xp := xp) (xo := xo) (xu := xu) (xw := xw) (xlc := xlc) (c := c) (s := s) (hF := hF) (x := (nI b_)) (w := (nI 2)) H.size) (cwV 2 hts gL_branches_X7_branch rfl rfl rfl hdX7_branch ⟨Nat.le_of_ble_eq_true rfl, Nat.le_of_ble_eq_true rfl⟩) (preVR hK hN hP [0, 1, 2] rfl 0 rfl rfl [.int (nI b_), .int (nI 2)]) rfl rfl hl.1 rfl (lv_room (Nat.le_of_ble_eq_true rfl)) dL_branches_82 ⟨Nat.le_refl _, Nat.le_refl _⟩) hP hS hA (fun H locs hP hS => ?_)
          refine r_top (show (brR s (nI b_) (nI 2)) = (nI (brE s b_ 0)) from (br_ (by omega) (by omega) (by omega))) ?_
          refine lv_istore (lv' := [(8, .int (nI (brE s b_ 0))), (2, .int (nI (cntF (loudB s) (b_ + 1)))), (1, .int (nI (cntF (waitB s) (b_ + 1)))), (7, .int (nI (meet s (lf s b_) (hE s)))), (6, .int (nI 1)), (5, .int (nI (lf s b_))), (0, .ref x0), (3, .int (nI 1)), (4, .int (nI b_))]) hx hb dL_branches_85 hl (by decide) rfl (fun ls hl => ?_)
          refine lv_aload_n hx hb dL_branches_87 rfl (lv_at hl 6 rfl) ?_
          refine lv_iload hx hb dL_branches_88 (lv_at hl 8 rfl) ?_
          refine lv_iconst (v := (nI 1)) hx hb dL_branches_90 (by decide) ?_
          refine call_x (va_runV (As := [.int (nI b_), .int (nI 1)]) (rest := []) ⟨hx, hb, hml, hown, hts⟩ (kX7_branch ln dg tq (x0 := x0) (xl := xl) (xh := xh) (xt := xt) (xp := xp) (xo := xo) (xu := xu) (xw := xw) (xlc := xlc) (c := c) (s := s) (hF := hF) (x := (nI b_)) (w := (nI 1)) H.size) (cwV 2 hts gL_branches_X7_branch rfl rfl rfl hdX7_branch ⟨Nat.le_of_ble_eq_true rfl, Nat.le_of_ble_eq_true rfl⟩) (preVR hK hN hP [0, 1, 2] rfl 0 rfl rfl [.int (nI b_), .int (nI 1)]) rfl rfl hl.1 rfl (lv_room (Nat.le_of_ble_eq_true rfl)) dL_branches_91 ⟨Nat.le_refl _, Nat.le_refl _⟩) hP hS hA (fun H locs hP hS => ?_)
          refine r_top (show (brR s (nI b_) (nI 1)) = (nI (mn s b_)) from (br_ (by omega) (by omega) (by omega))) ?_
          refine r_if_le (tgt := 212) hx hb (nI_tI (by omega)) dL_branches_94 (by decide) (fun c94 => False.elim (by omega)) (fun c94 => ?_)
          refine lv_aload_n hx hb dL_branches_97 rfl (lv_at hl 6 rfl) ?_
          refine lv_iload hx hb dL_branches_98 (lv_at hl 5 rfl) ?_
          refine lv_bipush (v := (nI 9)) hx hb dL_branches_100 (by decide) ?_
          refine call_w (wr := [(xh, .inr (0, [.ref xhc, .int (nI st), .int (nI nx)])), (xhc, .inl (tq.1, 7365, .inl hc)), (xt, .inr (6, [.ref xtc, .int (nI tl)])), (xtc, .inl (tq.1, 100, .inl tx))]) (va_runV (As := [.int (nI (lf s b_)), .int (nI 9)]) (rest := []) ⟨hx, hb, hml, hown, hts⟩ (kX7_entry ln dg tq (x0 := x0) (xl := xl) (xh := xh) (xt := xt) (xp := xp) (xo := xo) (xu := xu) (xw := xw) (xlc := xlc) (c := c) (s := s) (hF := hF) (xus := xus) (uf := f_) (x := (nI (lf s b_))) (w := (nI 9)) H.size) (cwV 2 hts gL_branches_X7_entry rfl rfl rfl hdX7_entry ⟨Nat.le_of_ble_eq_true rfl, Nat.le_of_ble_eq_true rfl⟩) (preVB hK hN hP hD [0, 1, 2, 7, 8] rfl rfl rfl 0 rfl rfl [.int (nI (lf s b_)), .int (nI 9)]) rfl rfl hl.1 rfl (lv_room (Nat.le_of_ble_eq_true rfl)) dL_branches_102 ⟨Nat.le_refl _, Nat.le_refl _⟩) hP hD hS hA [0, 1, 2, 7, 8] [3, 4, 5, 6] rfl rfl (by decide) (by decide) (fun r102 u102 H locs hw102 hP hD hS => ?_)
          obtain ⟨uf2102, rfl⟩ : ∃ z, z = u102 := ⟨_, rfl⟩
          have hP : va_P dg vwCl [(xh, .inr (0, [.ref xhc, .int (nI st), .int (nI nx)])), (xhc, .inl (tq.1, 7365, .inl hc)), (xt, .inr (6, [.ref xtc, .int (nI tl)])), (xtc, .inl (tq.1, 100, .inl tx)), (x0, .inr (7, [.ref xl, .ref xh, .ref xt, .ref xp, .ref xo, .ref xu, .ref xw])), (xl, .inr (1, [.ref xlc])), (xlc, .inl (tq.1, 1473, .inl c)), (xu, .inr (5, [.ref xus])), (xus, .inl (tq.1, 6, .inl uf2102))] H := hP
          have hD : va_D AA [(xh, .inr (0, [.ref xhc, .int (nI st), .int (nI nx)])), (xhc, .inl (tq.1, 7365, .inl hc)), (xt, .inr (6, [.ref xtc, .int (nI tl)])), (xtc, .inl (tq.1, 100, .inl tx)), (x0, .inr (7, [.ref xl, .ref xh, .ref xt, .ref xp, .ref xo, .ref xu, .ref xw])), (xl, .inr (1, [.ref xlc])), (xlc, .inl (tq.1, 1473, .inl c)), (xu, .inr (5, [.ref xus])), (xus, .inl (tq.1, 6, .inl uf2102))] := hD
          subst hw102
          refine r_top (show (etR s (nI (lf s b_)) (nI 9)) = (nI (dep s (lf s b_))) from (et_ (by omega) (by omega) (by omega))) ?_
          refine lv_aload_n hx hb dL_branches_105 rfl (lv_at hl 6 rfl) ?_
          refine lv_iload hx hb dL_branches_106 (lv_at hl 0 rfl) ?_
          refine lv_bipush (v := (nI 9)) hx hb dL_branches_108 (by decide) ?_
          refine call_w (wr := [(xh, .inr (0, [.ref xhc, .int (nI st), .int (nI nx)])), (xhc, .inl (tq.1, 7365, .inl hc)), (xt, .inr (6, [.ref xtc, .int (nI tl)])), (xtc, .inl (tq.1, 100, .inl tx))]) (va_runV (As := [.int (nI (brE s b_ 0)), .int (nI 9)]) (rest := [.int (nI (dep s (lf s b_)))]) ⟨hx, hb, hml, hown, hts⟩ (kX7_entry ln dg tq (x0 := x0) (xl := xl) (xh := xh) (xt := xt) (xp := xp) (xo := xo) (xu := xu) (xw := xw) (xlc := xlc) (c := c) (s := s) (hF := hF) (xus := xus) (uf := uf2102) (x := (nI (brE s b_ 0))) (w := (nI 9)) H.size) (cwV 2 hts gL_branches_X7_entry rfl rfl rfl hdX7_entry ⟨Nat.le_of_ble_eq_true rfl, Nat.le_of_ble_eq_true rfl⟩) (preVB hK hN hP hD [4, 5, 6, 7, 8] rfl rfl rfl 4 rfl rfl [.int (nI (brE s b_ 0)), .int (nI 9)]) rfl rfl hl.1 rfl (lv_room (Nat.le_of_ble_eq_true rfl)) dL_branches_110 ⟨Nat.le_refl _, Nat.le_refl _⟩) hP hD hS hA [4, 5, 6, 7, 8] [0, 1, 2, 3] rfl rfl (by decide) (by decide) (fun r110 u110 H locs hw110 hP hD hS => ?_)
          obtain ⟨uf2110, rfl⟩ : ∃ z, z = u110 := ⟨_, rfl⟩
          have hP : va_P dg vwCl [(xh, .inr (0, [.ref xhc, .int (nI st), .int (nI nx)])), (xhc, .inl (tq.1, 7365, .inl hc)), (xt, .inr (6, [.ref xtc, .int (nI tl)])), (xtc, .inl (tq.1, 100, .inl tx)), (x0, .inr (7, [.ref xl, .ref xh, .ref xt, .ref xp, .ref xo, .ref xu, .ref xw])), (xl, .inr (1, [.ref xlc])), (xlc, .inl (tq.1, 1473, .inl c)), (xu, .inr (5, [.ref xus])), (xus, .inl (tq.1, 6, .inl uf2110))] H := hP
          have hD : va_D AA [(xh, .inr (0, [.ref xhc, .int (nI st), .int (nI nx)])), (xhc, .inl (tq.1, 7365, .inl hc)), (xt, .inr (6, [.ref xtc, .int (nI tl)])), (xtc, .inl (tq.1, 100, .inl tx)), (x0, .inr (7, [.ref xl, .ref xh, .ref xt, .ref xp, .ref xo, .ref xu, .ref xw])), (xl, .inr (1, [.ref xlc])), (xlc, .inl (tq.1, 1473, .inl c)), (xu, .inr (5, [.ref xus])), (xus, .inl (tq.1, 6, .inl uf2110))] := hD
          subst hw110
          refine r_top (show (etR s (nI (brE s b_ 0)) (nI 9)) = (nI (dep s (brE s b_ 0))) from (et_ (by omega) (by omega) (by omega))) ?_
          refine r_isub_n hx hb (by omega) dL_branches_113 ?_
          refine lv_iconst (v := (nI 1)) hx hb dL_branches_114 (by decide) ?_
          refine r_iadd_n hx hb dL_branches_115 ?_
          refine lv_aload_n hx hb dL_branches_116 rfl (lv_at hl 6 rfl) ?_
          refine lv_iload hx hb dL_branches_117 (lv_at hl 8 rfl) ?_
          refine lv_iconst (v := (nI 1)) hx hb dL_branches_119 (by decide) ?_
          refine call_x (va_runV (As := [.int (nI b_), .int (nI 1)]) (rest := [.int (nI (((dep s (lf s b_)) - (dep s (brE s b_ 0))) + 1))]) ⟨hx, hb, hml, hown, hts⟩ (kX7_branch ln dg tq (x0 := x0) (xl := xl) (xh := xh) (xt := xt) (xp := xp) (xo := xo) (xu := xu) (xw := xw) (xlc := xlc) (c := c) (s := s) (hF := hF) (x := (nI b_)) (w := (nI 1)) H.size) (cwV 2 hts gL_branches_X7_branch rfl rfl rfl hdX7_branch ⟨Nat.le_of_ble_eq_true rfl, Nat.le_of_ble_eq_true rfl⟩) (preVR hK hN hP [4, 5, 6] rfl 4 rfl rfl [.int (nI b_), .int (nI 1)]) rfl rfl hl.1 rfl (lv_room (Nat.le_of_ble_eq_true rfl)) dL_branches_120 ⟨Nat.le_refl _, Nat.le_refl _⟩) hP hS hA (fun H locs hP hS => ?_)
          refine r_top (show (brR s (nI b_) (nI 1)) = (nI (mn s b_)) from (br_ (by omega) (by omega) (by omega))) ?_
          refine r_icmp_ne (tgt := 212) hx hb (nI_tI (by omega)) (nI_tI (by omega)) dL_branches_123 (by decide) (fun c123 => False.elim (by omega)) (fun c123 => ?_)
          refine lv_aload_n hx hb dL_branches_126 rfl (lv_at hl 6 rfl) ?_
          refine lv_iload hx hb dL_branches_127 (lv_at hl 0 rfl) ?_
          refine lv_iload hx hb dL_branches_129 (lv_at hl 5 rfl) ?_
          refine call_x (va_runV (As := [.int (nI (brE s b_ 0)), .int (nI (lf s b_))]) (rest := []) ⟨hx, hb, hml, hown, hts⟩ (kX7_common ln dg tq (x0 := x0) (xl := xl) (xh := xh) (xt := xt) (xp := xp) (xo := xo) (xu := xu) (xw := xw) (xlc := xlc) (c := c) (s := s) (hF := hF) (x := (nI (brE s b_ 0))) (y := (nI (lf s b_))) H.size) (cwV 2 hts gL_branches_X7_common rfl rfl rfl hdX7_common ⟨Nat.le_of_ble_eq_true rfl, Nat.le_of_ble_eq_true rfl⟩) (preVR hK hN hP [4, 5, 6] rfl 4 rfl rfl [.int (nI (brE s b_ 0)), .int (nI (lf s b_))]) rfl rfl hl.1 rfl (lv_room (Nat.le_of_ble_eq_true rfl)) dL_branches_131 ⟨Nat.le_refl _, Nat.le_refl _⟩) hP hS hA (fun H locs hP hS => ?_)
          refine r_top (show (cmR s (nI (brE s b_ 0)) (nI (lf s b_))) = (nI (meet s (brE s b_ 0) (lf s b_))) from cm_ (by omega) (by omega) (by omega)) ?_
          refine r_top (show (nI (meet s (brE s b_ 0) (lf s b_))) = (nI (brE s b_ 0)) from congrArg nI (meet_t hf2)) ?_
          refine lv_iload hx hb dL_branches_134 (lv_at hl 0 rfl) ?_
          refine r_icmp_ne (tgt := 212) hx hb (nI_tI (by omega)) (nI_tI (by omega)) dL_branches_136 (by decide) (fun c136 => False.elim (by omega)) (fun c136 => ?_)
          refine lv_aload_n hx hb dL_branches_139 rfl (lv_at hl 6 rfl) ?_
          refine lv_iload hx hb dL_branches_140 (lv_at hl 5 rfl) ?_
          refine lv_aload_n hx hb dL_branches_142 rfl (lv_at hl 6 rfl) ?_
          refine lv_iconst (v := (nI 1)) hx hb dL_branches_143 (by decide) ?_
          refine call_x (va_runV (As := [.int (nI 1)]) (rest := [.int (nI (lf s b_)), .ref x0]) ⟨hx, hb, hml, hown, hts⟩ (kX7_count ln dg tq (x0 := x0) (xl := xl) (xh := xh) (xt := xt) (xp := xp) (xo := xo) (xu := xu) (xw := xw) (xlc := xlc) (c := c) (s := s) (hF := hF) (xhc := xhc) (st := st) (nx := nx) (hc := hc) (xtc := xtc) (tl := tl) (tx := tx) (x := (nI 1)) H.size) (cwV 1 hts gL_branches_X7_count rfl rfl rfl hdX7_count ⟨Nat.le_of_ble_eq_true rfl, Nat.le_of_ble_eq_true rfl⟩) (preVR hK hN hP [4, 5, 6, 0, 1, 2, 3] rfl 4 rfl rfl [.int (nI 1)]) rfl rfl hl.1 rfl (lv_room (Nat.le_of_ble_eq_true rfl)) dL_branches_144 ⟨Nat.le_refl _, Nat.le_refl _⟩) hP hS hA (fun H locs hP hS => ?_)
          refine r_top (show (ctR s st tl (nI 1)) = (nI (hE s)) from ct_ (by omega)) ?_
          refine call_x (va_runV (As := [.int (nI (lf s b_)), .int (nI (hE s))]) (rest := []) ⟨hx, hb, hml, hown, hts⟩ (kX7_common ln dg tq (x0 := x0) (xl := xl) (xh := xh) (xt := xt) (xp := xp) (xo := xo) (xu := xu) (xw := xw) (xlc := xlc) (c := c) (s := s) (hF := hF) (x := (nI (lf s b_))) (y := (nI (hE s))) H.size) (cwV 2 hts gL_branches_X7_common rfl rfl rfl hdX7_common ⟨Nat.le_of_ble_eq_true rfl, Nat.le_of_ble_eq_true rfl⟩) (preVR hK hN hP [4, 5, 6] rfl 4 rfl rfl [.int (nI (lf s b_)), .int (nI (hE s))]) rfl rfl hl.1 rfl (lv_room (Nat.le_of_ble_eq_true rfl)) dL_branches_147 ⟨Nat.le_refl _, Nat.le_refl _⟩) hP hS hA (fun H locs hP hS => ?_)
          refine r_top (show (cmR s (nI (lf s b_)) (nI (hE s))) = (nI (meet s (lf s b_) (hE s))) from cm_ (by omega) (by omega) (by omega)) ?_
          refine lv_iload hx hb dL_branches_150 (lv_at hl 3 rfl) ?_
          refine r_icmp_ne (tgt := 212) hx hb (nI_tI (by omega)) (nI_tI (by omega)) dL_branches_152 (by decide) (fun c152 => False.elim (by omega)) (fun c152 => ?_)
          refine lv_aload_n hx hb dL_branches_155 rfl (lv_at hl 6 rfl) ?_
          refine lv_iload hx hb dL_branches_156 (lv_at hl 3 rfl) ?_
          refine lv_bipush (v := (nI 7)) hx hb dL_branches_158 (by decide) ?_
          refine call_w (wr := [(xh, .inr (0, [.ref xhc, .int (nI st), .int (nI nx)])), (xhc, .inl (tq.1, 7365, .inl hc)), (xt, .inr (6, [.ref xtc, .int (nI tl)])), (xtc, .inl (tq.1, 100, .inl tx))]) (va_runV (As := [.int (nI (meet s (lf s b_) (hE s))), .int (nI 7)]) (rest := []) ⟨hx, hb, hml, hown, hts⟩ (kX7_entry ln dg tq (x0 := x0) (xl := xl) (xh := xh) (xt := xt) (xp := xp) (xo := xo) (xu := xu) (xw := xw) (xlc := xlc) (c := c) (s := s) (hF := hF) (xus := xus) (uf := uf2110) (x := (nI (meet s (lf s b_) (hE s)))) (w := (nI 7)) H.size) (cwV 2 hts gL_branches_X7_entry rfl rfl rfl hdX7_entry ⟨Nat.le_of_ble_eq_true rfl, Nat.le_of_ble_eq_true rfl⟩) (preVB hK hN hP hD [4, 5, 6, 7, 8] rfl rfl rfl 4 rfl rfl [.int (nI (meet s (lf s b_) (hE s))), .int (nI 7)]) rfl rfl hl.1 rfl (lv_room (Nat.le_of_ble_eq_true rfl)) dL_branches_160 ⟨Nat.le_refl _, Nat.le_refl _⟩) hP hD hS hA [4, 5, 6, 7, 8] [0, 1, 2, 3] rfl rfl (by decide) (by decide) (fun r160 u160 H locs hw160 hP hD hS => ?_)
          obtain ⟨uf2160, rfl⟩ : ∃ z, z = u160 := ⟨_, rfl⟩
          have hP : va_P dg vwCl [(xh, .inr (0, [.ref xhc, .int (nI st), .int (nI nx)])), (xhc, .inl (tq.1, 7365, .inl hc)), (xt, .inr (6, [.ref xtc, .int (nI tl)])), (xtc, .inl (tq.1, 100, .inl tx)), (x0, .inr (7, [.ref xl, .ref xh, .ref xt, .ref xp, .ref xo, .ref xu, .ref xw])), (xl, .inr (1, [.ref xlc])), (xlc, .inl (tq.1, 1473, .inl c)), (xu, .inr (5, [.ref xus])), (xus, .inl (tq.1, 6, .inl uf2160))] H := hP
          have hD : va_D AA [(xh, .inr (0, [.ref xhc, .int (nI st), .int (nI nx)])), (xhc, .inl (tq.1, 7365, .inl hc)), (xt, .inr (6, [.ref xtc, .int (nI tl)])), (xtc, .inl (tq.1, 100, .inl tx)), (x0, .inr (7, [.ref xl, .ref xh, .ref xt, .ref xp, .ref xo, .ref xu, .ref xw])), (xl, .inr (1, [.ref xlc])), (xlc, .inl (tq.1, 1473, .inl c)), (xu, .inr (5, [.ref xus])), (xus, .inl (tq.1, 6, .inl uf2160))] := hD
          subst hw160
          refine r_top (show (etR s (nI (meet s (lf s b_) (hE s))) (nI 7)) = (nI 1) from (et_ (by omega) (by omega) (by omega)).trans (et7 hq2)) ?_
          refine lv_iconst (v := (nI 1)) hx hb dL_branches_163 (by decide) ?_
          refine r_icmp_ne (tgt := 212) hx hb (nI_tI (by omega)) (nI_tI (by omega)) dL_branches_164 (by decide) (fun c164 => False.elim (by omega)) (fun c164 => ?_)
          refine lv_iload hx hb dL_branches_167 (lv_at hl 4 rfl) ?_
          refine lv_iconst (v := (nI 1)) hx hb dL_branches_169 (by decide) ?_
          refine r_icmp_ne (tgt := 177) hx hb (nI_tI (by omega)) (nI_tI (by omega)) dL_branches_170 (by decide) (fun c170 => False.elim (by omega)) (fun c170 => ?_)
          refine lv_iconst (v := (nI 1)) hx hb dL_branches_173 (by decide) ?_
          refine lv_goto (tgt := 178) hx hb dL_branches_174 (by decide) ?_
          refine lv_iload hx hb dL_branches_178 (lv_at hl 4 rfl) ?_
          refine lv_iconst (v := (nI 2)) hx hb dL_branches_180 (by decide) ?_
          refine r_icmp_ge (tgt := 204) hx hb (nI_tI (by omega)) (nI_tI (by omega)) dL_branches_181 (by decide) (fun c181 => False.elim (by omega)) (fun c181 => ?_)
          refine lv_aload_n hx hb dL_branches_184 rfl (lv_at hl 6 rfl) ?_
          refine lv_iload hx hb dL_branches_185 (lv_at hl 8 rfl) ?_
          refine lv_iconst (v := (nI 3)) hx hb dL_branches_187 (by decide) ?_
          refine call_x (va_runV (As := [.int (nI b_), .int (nI 3)]) (rest := [.int (nI 1)]) ⟨hx, hb, hml, hown, hts⟩ (kX7_branch ln dg tq (x0 := x0) (xl := xl) (xh := xh) (xt := xt) (xp := xp) (xo := xo) (xu := xu) (xw := xw) (xlc := xlc) (c := c) (s := s) (hF := hF) (x := (nI b_)) (w := (nI 3)) H.size) (cwV 2 hts gL_branches_X7_branch rfl rfl rfl hdX7_branch ⟨Nat.le_of_ble_eq_true rfl, Nat.le_of_ble_eq_true rfl⟩) (preVR hK hN hP [4, 5, 6] rfl 4 rfl rfl [.int (nI b_), .int (nI 3)]) rfl rfl hl.1 rfl (lv_room (Nat.le_of_ble_eq_true rfl)) dL_branches_188 ⟨Nat.le_refl _, Nat.le_refl _⟩) hP hS hA (fun H locs hP hS => ?_)
          refine r_top (show (brR s (nI b_) (nI 3)) = (mb s b_ 2) from (br_ (by omega) (by omega) (by omega))) ?_
          refine lv_aload_n hx hb dL_branches_191 rfl (lv_at hl 6 rfl) ?_
          refine lv_bipush (v := (nI 6)) hx hb dL_branches_192 (by decide) ?_
          refine call_x (va_runV (As := [.int (nI 6)]) (rest := [.int (mb s b_ 2), .int (nI 1)]) ⟨hx, hb, hml, hown, hts⟩ (kX7_count ln dg tq (x0 := x0) (xl := xl) (xh := xh) (xt := xt) (xp := xp) (xo := xo) (xu := xu) (xw := xw) (xlc := xlc) (c := c) (s := s) (hF := hF) (xhc := xhc) (st := st) (nx := nx) (hc := hc) (xtc := xtc) (tl := tl) (tx := tx) (x := (nI 6)) H.size) (cwV 1 hts gL_branches_X7_count rfl rfl rfl hdX7_count ⟨Nat.le_of_ble_eq_true rfl, Nat.le_of_ble_eq_true rfl⟩) (preVR hK hN hP [4, 5, 6, 0, 1, 2, 3] rfl 4 rfl rfl [.int (nI 6)]) rfl rfl hl.1 rfl (lv_room (Nat.le_of_ble_eq_true rfl)) dL_branches_194 ⟨Nat.le_refl _, Nat.le_refl _⟩) hP hS hA (fun H locs hP hS => ?_)
          refine r_top (show (ctR s st tl (nI 6)) = (s 3) from ct_ (by omega)) ?_
          refine r_icmp_lt (tgt := 204) hx hb rfl rfl dL_branches_197 (by decide) (fun c197 => False.elim (by have q := (loud_t hld).2; omega)) (fun c197 => ?_)
          refine lv_iconst (v := (nI 1)) hx hb dL_branches_200 (by decide) ?_
          refine lv_goto (tgt := 205) hx hb dL_branches_201 (by decide) ?_
          refine r_icmp_ne (tgt := 212) hx hb (nI_tI (by omega)) (nI_tI (by omega)) dL_branches_205 (by decide) (fun c205 => False.elim (by omega)) (fun c205 => ?_)
          refine lv_iconst (v := (nI 1)) hx hb dL_branches_208 (by decide) ?_
          refine lv_goto (tgt := 213) hx hb dL_branches_209 (by decide) ?_
          refine lv_istore_n (lv' := [(3, .int (nI 1)), (8, .int (nI (brE s b_ 0))), (2, .int (nI (cntF (loudB s) (b_ + 1)))), (1, .int (nI (cntF (waitB s) (b_ + 1)))), (7, .int (nI (meet s (lf s b_) (hE s)))), (6, .int (nI 1)), (5, .int (nI (lf s b_))), (0, .ref x0), (4, .int (nI b_))]) hx hb dL_branches_213 rfl hl (by decide) rfl (fun ls hl => ?_)
          refine lv_iinc (v := (nI (b_ + 1))) (lv' := [(4, .int (nI (b_ + 1))), (3, .int (nI 1)), (8, .int (nI (brE s b_ 0))), (2, .int (nI (cntF (loudB s) (b_ + 1)))), (1, .int (nI (cntF (waitB s) (b_ + 1)))), (7, .int (nI (meet s (lf s b_) (hE s)))), (6, .int (nI 1)), (5, .int (nI (lf s b_))), (0, .ref x0)]) hx hb dL_branches_214 hl (k := 8) rfl (nI_add _ _) (by decide) rfl (fun ls hl => ?_)
          refine lv_goto (tgt := 9) hx hb dL_branches_217 (by decide) ?_
          exact ih9 (b_ + 1) uf2160 H locs ls (by omega) (by omega) (hP.sub [4, 5, 6, 0, 1, 2, 3, 7, 8] rfl) (hD.sub [4, 5, 6, 0, 1, 2, 3, 7, 8] (by decide) rfl) hS (lv_sub hl [8, 4, 3, 1, 0] rfl)
        · skip
          by_cases hwt : waitB s b_ = true
          · skip
            refine lv_aload_n hx hb dL_branches_32 rfl (lv_at hl 1 rfl) ?_
            refine lv_iload hx hb dL_branches_33 (lv_at hl 5 rfl) ?_
            refine lv_iconst (v := (nI 4)) hx hb dL_branches_35 (by decide) ?_
            refine call_x (va_runV (As := [.int (nI b_), .int (nI 4)]) (rest := []) ⟨hx, hb, hml, hown, hts⟩ (kX7_branch ln dg tq (x0 := x0) (xl := xl) (xh := xh) (xt := xt) (xp := xp) (xo := xo) (xu := xu) (xw := xw) (xlc := xlc) (c := c) (s := s) (hF := hF) (x := (nI b_)) (w := (nI 4)) H.size) (cwV 2 hts gL_branches_X7_branch rfl rfl rfl hdX7_branch ⟨Nat.le_of_ble_eq_true rfl, Nat.le_of_ble_eq_true rfl⟩) (preVR hK hN hP [0, 1, 2] rfl 0 rfl rfl [.int (nI b_), .int (nI 4)]) rfl rfl hl.1 rfl (lv_room (Nat.le_of_ble_eq_true rfl)) dL_branches_36 ⟨Nat.le_refl _, Nat.le_refl _⟩) hP hS hA (fun H locs hP hS => ?_)
            refine r_top (show (brR s (nI b_) (nI 4)) = (brN s b_ 4) from (br_ (by omega) (by omega) (by omega))) ?_
            refine r_top (show (brN s b_ 4) = (nI 0) from (brN_n hld).trans (wait_0 hwt)) ?_
            refine lv_istore (lv' := [(6, .int (nI 0)), (5, .int (nI (lf s b_))), (0, .ref x0), (1, .int (nI (cntF (waitB s) b_))), (2, .int (nI (cntF (loudB s) b_))), (3, .int (nI 1)), (4, .int (nI b_))]) hx hb dL_branches_39 hl (by decide) rfl (fun ls hl => ?_)
            refine lv_aload_n hx hb dL_branches_41 rfl (lv_at hl 2 rfl) ?_
            refine lv_iload hx hb dL_branches_42 (lv_at hl 6 rfl) ?_
            refine lv_iconst (v := (nI 5)) hx hb dL_branches_44 (by decide) ?_
            refine call_x (va_runV (As := [.int (nI b_), .int (nI 5)]) (rest := []) ⟨hx, hb, hml, hown, hts⟩ (kX7_branch ln dg tq (x0 := x0) (xl := xl) (xh := xh) (xt := xt) (xp := xp) (xo := xo) (xu := xu) (xw := xw) (xlc := xlc) (c := c) (s := s) (hF := hF) (x := (nI b_)) (w := (nI 5)) H.size) (cwV 2 hts gL_branches_X7_branch rfl rfl rfl hdX7_branch ⟨Nat.le_of_ble_eq_true rfl, Nat.le_of_ble_eq_true rfl⟩) (preVR hK hN hP [0, 1, 2] rfl 0 rfl rfl [.int (nI b_), .int (nI 5)]) rfl rfl hl.1 rfl (lv_room (Nat.le_of_ble_eq_true rfl)) dL_branches_45 ⟨Nat.le_refl _, Nat.le_refl _⟩) hP hS hA (fun H locs hP hS => ?_)
            refine r_top (show (brR s (nI b_) (nI 5)) = (nI (meet s (lf s b_) (hE s))) from (br_ (by omega) (by omega) (by omega))) ?_
            refine lv_istore (lv' := [(7, .int (nI (meet s (lf s b_) (hE s)))), (6, .int (nI 0)), (5, .int (nI (lf s b_))), (0, .ref x0), (1, .int (nI (cntF (waitB s) b_))), (2, .int (nI (cntF (loudB s) b_))), (3, .int (nI 1)), (4, .int (nI b_))]) hx hb dL_branches_48 hl (by decide) rfl (fun ls hl => ?_)
            refine lv_iload_n hx hb dL_branches_50 rfl (lv_at hl 4 rfl) ?_
            refine lv_iload hx hb dL_branches_51 (lv_at hl 1 rfl) ?_
            refine lv_iconst (v := (nI 2)) hx hb dL_branches_53 (by decide) ?_
            refine r_icmp_ge (tgt := 61) hx hb (nI_tI (by omega)) (nI_tI (by omega)) dL_branches_54 (by decide) (fun c54 => False.elim (by omega)) (fun c54 => ?_)
            refine lv_iconst (v := (nI 1)) hx hb dL_branches_57 (by decide) ?_
            refine lv_goto (tgt := 62) hx hb dL_branches_58 (by decide) ?_
            refine r_iadd_n hx hb dL_branches_62 ?_
            refine lv_istore_n (lv' := [(1, .int (nI ((cntF (waitB s) b_) + 1))), (7, .int (nI (meet s (lf s b_) (hE s)))), (6, .int (nI 0)), (5, .int (nI (lf s b_))), (0, .ref x0), (2, .int (nI (cntF (loudB s) b_))), (3, .int (nI 1)), (4, .int (nI b_))]) hx hb dL_branches_63 rfl hl (by decide) rfl (fun ls hl => ?_)
            have hl : lv_has ls 9 [(1, .int (nI (cntF (waitB s) (b_ + 1)))), (7, .int (nI (meet s (lf s b_) (hE s)))), (6, .int (nI 0)), (5, .int (nI (lf s b_))), (0, .ref x0), (2, .int (nI (cntF (loudB s) b_))), (3, .int (nI 1)), (4, .int (nI b_))] := by have el : (nI ((cntF (waitB s) b_) + 1)) = (nI (cntF (waitB s) (b_ + 1))) := (cnt_s_t hwt); rw [← el]; exact hl
            refine lv_iload_n hx hb dL_branches_64 rfl (lv_at hl 5 rfl) ?_
            refine lv_iload hx hb dL_branches_65 (lv_at hl 2 rfl) ?_
            refine lv_iconst (v := (nI 1)) hx hb dL_branches_67 (by decide) ?_
            refine r_icmp_ne (tgt := 75) hx hb (nI_tI (by omega)) (nI_tI (by omega)) dL_branches_68 (by decide) (fun c68 => ?_) (fun c68 => False.elim (by omega))
            refine lv_iconst (v := (nI 0)) hx hb dL_branches_75 (by decide) ?_
            refine r_iadd_n hx hb dL_branches_76 ?_
            refine lv_istore_n (lv' := [(2, .int (nI ((cntF (loudB s) b_) + 0))), (1, .int (nI (cntF (waitB s) (b_ + 1)))), (7, .int (nI (meet s (lf s b_) (hE s)))), (6, .int (nI 0)), (5, .int (nI (lf s b_))), (0, .ref x0), (3, .int (nI 1)), (4, .int (nI b_))]) hx hb dL_branches_77 rfl hl (by decide) rfl (fun ls hl => ?_)
            have hl : lv_has ls 9 [(2, .int (nI (cntF (loudB s) (b_ + 1)))), (1, .int (nI (cntF (waitB s) (b_ + 1)))), (7, .int (nI (meet s (lf s b_) (hE s)))), (6, .int (nI 0)), (5, .int (nI (lf s b_))), (0, .ref x0), (3, .int (nI 1)), (4, .int (nI b_))] := by have el : (nI ((cntF (loudB s) b_) + 0)) = (nI (cntF (loudB s) (b_ + 1))) := (cnt_s_f (not_t hld)); rw [← el]; exact hl
            refine lv_aload_n hx hb dL_branches_78 rfl (lv_at hl 5 rfl) ?_
            refine lv_iload hx hb dL_branches_79 (lv_at hl 7 rfl) ?_
            refine lv_iconst (v := (nI 2)) hx hb dL_branches_81 (by decide) ?_
            refine call_x (va_runV (As := [.int (nI b_), .int (nI 2)]) (rest := []) ⟨hx, hb, hml, hown, hts⟩ (kX7_branch ln dg tq (x0 := x0) (xl := xl) (xh := xh) (xt := xt) (xp := xp) (xo := xo) (xu := xu) (xw := xw) (xlc := xlc) (c := c) (s := s) (hF := hF) (x := (nI b_)) (w := (nI 2)) H.size) (cwV 2 hts gL_branches_X7_branch rfl rfl rfl hdX7_branch ⟨Nat.le_of_ble_eq_true rfl, Nat.le_of_ble_eq_true rfl⟩) (preVR hK hN hP [0, 1, 2] rfl 0 rfl rfl [.int (nI b_), .int (nI 2)]) rfl rfl hl.1 rfl (lv_room (Nat.le_of_ble_eq_true rfl)) dL_branches_82 ⟨Nat.le_refl _, Nat.le_refl _⟩) hP hS hA (fun H locs hP hS => ?_)
            refine r_top (show (brR s (nI b_) (nI 2)) = (nI (brE s b_ 0)) from (br_ (by omega) (by omega) (by omega))) ?_
            refine lv_istore (lv' := [(8, .int (nI (brE s b_ 0))), (2, .int (nI (cntF (loudB s) (b_ + 1)))), (1, .int (nI (cntF (waitB s) (b_ + 1)))), (7, .int (nI (meet s (lf s b_) (hE s)))), (6, .int (nI 0)), (5, .int (nI (lf s b_))), (0, .ref x0), (3, .int (nI 1)), (4, .int (nI b_))]) hx hb dL_branches_85 hl (by decide) rfl (fun ls hl => ?_)
            refine lv_aload_n hx hb dL_branches_87 rfl (lv_at hl 6 rfl) ?_
            refine lv_iload hx hb dL_branches_88 (lv_at hl 8 rfl) ?_
            refine lv_iconst (v := (nI 1)) hx hb dL_branches_90 (by decide) ?_
            refine call_x (va_runV (As := [.int (nI b_), .int (nI 1)]) (rest := []) ⟨hx, hb, hml, hown, hts⟩ (kX7_branch ln dg tq (x0 := x0) (xl := xl) (xh := xh) (xt := xt) (xp := xp) (xo := xo) (xu := xu) (xw := xw) (xlc := xlc) (c := c) (s := s) (hF := hF) (x := (nI b_)) (w := (nI 1)) H.size) (cwV 2 hts gL_branches_X7_branch rfl rfl rfl hdX7_branch ⟨Nat.le_of_ble_eq_true rfl, Nat.le_of_ble_eq_true rfl⟩) (preVR hK hN hP [0, 1, 2] rfl 0 rfl rfl [.int (nI b_), .int (nI 1)]) rfl rfl hl.1 rfl (lv_room (Nat.le_of_ble_eq_true rfl)) dL_branches_91 ⟨Nat.le_refl _, Nat.le_refl _⟩) hP hS hA (fun H locs hP hS => ?_)
            refine r_top (show (brR s (nI b_) (nI 1)) = (nI (mn s b_)) from (br_ (by omega) (by omega) (by omega))) ?_
            refine r_if_le (tgt := 212) hx hb (nI_tI (by omega)) dL_branches_94 (by decide) (fun c94 => False.elim (by omega)) (fun c94 => ?_)
            refine lv_aload_n hx hb dL_branches_97 rfl (lv_at hl 6 rfl) ?_
            refine lv_iload hx hb dL_branches_98 (lv_at hl 5 rfl) ?_
            refine lv_bipush (v := (nI 9)) hx hb dL_branches_100 (by decide) ?_
            refine call_w (wr := [(xh, .inr (0, [.ref xhc, .int (nI st), .int (nI nx)])), (xhc, .inl (tq.1, 7365, .inl hc)), (xt, .inr (6, [.ref xtc, .int (nI tl)])), (xtc, .inl (tq.1, 100, .inl tx))]) (va_runV (As := [.int (nI (lf s b_)), .int (nI 9)]) (rest := []) ⟨hx, hb, hml, hown, hts⟩ (kX7_entry ln dg tq (x0 := x0) (xl := xl) (xh := xh) (xt := xt) (xp := xp) (xo := xo) (xu := xu) (xw := xw) (xlc := xlc) (c := c) (s := s) (hF := hF) (xus := xus) (uf := f_) (x := (nI (lf s b_))) (w := (nI 9)) H.size) (cwV 2 hts gL_branches_X7_entry rfl rfl rfl hdX7_entry ⟨Nat.le_of_ble_eq_true rfl, Nat.le_of_ble_eq_true rfl⟩) (preVB hK hN hP hD [0, 1, 2, 7, 8] rfl rfl rfl 0 rfl rfl [.int (nI (lf s b_)), .int (nI 9)]) rfl rfl hl.1 rfl (lv_room (Nat.le_of_ble_eq_true rfl)) dL_branches_102 ⟨Nat.le_refl _, Nat.le_refl _⟩) hP hD hS hA [0, 1, 2, 7, 8] [3, 4, 5, 6] rfl rfl (by decide) (by decide) (fun r102 u102 H locs hw102 hP hD hS => ?_)
            obtain ⟨uf2102, rfl⟩ : ∃ z, z = u102 := ⟨_, rfl⟩
            have hP : va_P dg vwCl [(xh, .inr (0, [.ref xhc, .int (nI st), .int (nI nx)])), (xhc, .inl (tq.1, 7365, .inl hc)), (xt, .inr (6, [.ref xtc, .int (nI tl)])), (xtc, .inl (tq.1, 100, .inl tx)), (x0, .inr (7, [.ref xl, .ref xh, .ref xt, .ref xp, .ref xo, .ref xu, .ref xw])), (xl, .inr (1, [.ref xlc])), (xlc, .inl (tq.1, 1473, .inl c)), (xu, .inr (5, [.ref xus])), (xus, .inl (tq.1, 6, .inl uf2102))] H := hP
            have hD : va_D AA [(xh, .inr (0, [.ref xhc, .int (nI st), .int (nI nx)])), (xhc, .inl (tq.1, 7365, .inl hc)), (xt, .inr (6, [.ref xtc, .int (nI tl)])), (xtc, .inl (tq.1, 100, .inl tx)), (x0, .inr (7, [.ref xl, .ref xh, .ref xt, .ref xp, .ref xo, .ref xu, .ref xw])), (xl, .inr (1, [.ref xlc])), (xlc, .inl (tq.1, 1473, .inl c)), (xu, .inr (5, [.ref xus])), (xus, .inl (tq.1, 6, .inl uf2102))] := hD
            subst hw102
            refine r_top (show (etR s (nI (lf s b_)) (nI 9)) = (nI (dep s (lf s b_))) from (et_ (by omega) (by omega) (by omega))) ?_
            refine lv_aload_n hx hb dL_branches_105 rfl (lv_at hl 6 rfl) ?_
            refine lv_iload hx hb dL_branches_106 (lv_at hl 0 rfl) ?_
            refine lv_bipush (v := (nI 9)) hx hb dL_branches_108 (by decide) ?_
            refine call_w (wr := [(xh, .inr (0, [.ref xhc, .int (nI st), .int (nI nx)])), (xhc, .inl (tq.1, 7365, .inl hc)), (xt, .inr (6, [.ref xtc, .int (nI tl)])), (xtc, .inl (tq.1, 100, .inl tx))]) (va_runV (As := [.int (nI (brE s b_ 0)), .int (nI 9)]) (rest := [.int (nI (dep s (lf s b_)))]) ⟨hx, hb, hml, hown, hts⟩ (kX7_entry ln dg tq (x0 := x0) (xl := xl) (xh := xh) (xt := xt) (xp := xp) (xo := xo) (xu := xu) (xw := xw) (xlc := xlc) (c := c) (s := s) (hF := hF) (xus := xus) (uf := uf2102) (x := (nI (brE s b_ 0))) (w := (nI 9)) H.size) (cwV 2 hts gL_branches_X7_entry rfl rfl rfl hdX7_entry ⟨Nat.le_of_ble_eq_true rfl, Nat.le_of_ble_eq_true rfl⟩) (preVB hK hN hP hD [4, 5, 6, 7, 8] rfl rfl rfl 4 rfl rfl [.int (nI (brE s b_ 0)), .int (nI 9)]) rfl rfl hl.1 rfl (lv_room (Nat.le_of_ble_eq_true rfl)) dL_branches_110 ⟨Nat.le_refl _, Nat.le_refl _⟩) hP hD hS hA [4, 5, 6, 7, 8] [0, 1, 2, 3] rfl rfl (by decide) (by decide) (fun r110 u110 H locs hw110 hP hD hS => ?_)
            obtain ⟨uf2110, rfl⟩ : ∃ z, z = u110 := ⟨_, rfl⟩
            have hP : va_P dg vwCl [(xh, .inr (0, [.ref xhc, .int (nI st), .int (nI nx)])), (xhc, .inl (tq.1, 7365, .inl hc)), (xt, .inr (6, [.ref xtc, .int (nI tl)])), (xtc, .inl (tq.1, 100, .inl tx)), (x0, .inr (7, [.ref xl, .ref xh, .ref xt, .ref xp, .ref xo, .ref xu, .ref xw])), (xl, .inr (1, [.ref xlc])), (xlc, .inl (tq.1, 1473, .inl c)), (xu, .inr (5, [.ref xus])), (xus, .inl (tq.1, 6, .inl uf2110))] H := hP
            have hD : va_D AA [(xh, .inr (0, [.ref xhc, .int (nI st), .int (nI nx)])), (xhc, .inl (tq.1, 7365, .inl hc)), (xt, .inr (6, [.ref xtc, .int (nI tl)])), (xtc, .inl (tq.1, 100, .inl tx)), (x0, .inr (7, [.ref xl, .ref xh, .ref xt, .ref xp, .ref xo, .ref xu, .ref xw])), (xl, .inr (1, [.ref xlc])), (xlc, .inl (tq.1, 1473, .inl c)), (xu, .inr (5, [.ref xus])), (xus, .inl (tq.1, 6, .inl uf2110))] := hD
            subst hw110
            refine r_top (show (etR s (nI (brE s b_ 0)) (nI 9)) = (nI (dep s (brE s b_ 0))) from (et_ (by omega) (by omega) (by omega))) ?_
            refine r_isub_n hx hb (by omega) dL_branches_113 ?_
            refine lv_iconst (v := (nI 1)) hx hb dL_branches_114 (by decide) ?_
            refine r_iadd_n hx hb dL_branches_115 ?_
            refine lv_aload_n hx hb dL_branches_116 rfl (lv_at hl 6 rfl) ?_
            refine lv_iload hx hb dL_branches_117 (lv_at hl 8 rfl) ?_
            refine lv_iconst (v := (nI 1)) hx hb dL_branches_119 (by decide) ?_
            refine call_x (va_runV (As := [.int (nI b_), .int (nI 1)]) (rest := [.int (nI (((dep s (lf s b_)) - (dep s (brE s b_ 0))) + 1))]) ⟨hx, hb, hml, hown, hts⟩ (kX7_branch ln dg tq (x0 := x0) (xl := xl) (xh := xh) (xt := xt) (xp := xp) (xo := xo) (xu := xu) (xw := xw) (xlc := xlc) (c := c) (s := s) (hF := hF) (x := (nI b_)) (w := (nI 1)) H.size) (cwV 2 hts gL_branches_X7_branch rfl rfl rfl hdX7_branch ⟨Nat.le_of_ble_eq_true rfl, Nat.le_of_ble_eq_true rfl⟩) (preVR hK hN hP [4, 5, 6] rfl 4 rfl rfl [.int (nI b_), .int (nI 1)]) rfl rfl hl.1 rfl (lv_room (Nat.le_of_ble_eq_true rfl)) dL_branches_120 ⟨Nat.le_refl _, Nat.le_refl _⟩) hP hS hA (fun H locs hP hS => ?_)
            refine r_top (show (brR s (nI b_) (nI 1)) = (nI (mn s b_)) from (br_ (by omega) (by omega) (by omega))) ?_
            refine r_icmp_ne (tgt := 212) hx hb (nI_tI (by omega)) (nI_tI (by omega)) dL_branches_123 (by decide) (fun c123 => False.elim (by omega)) (fun c123 => ?_)
            refine lv_aload_n hx hb dL_branches_126 rfl (lv_at hl 6 rfl) ?_
            refine lv_iload hx hb dL_branches_127 (lv_at hl 0 rfl) ?_
            refine lv_iload hx hb dL_branches_129 (lv_at hl 5 rfl) ?_
            refine call_x (va_runV (As := [.int (nI (brE s b_ 0)), .int (nI (lf s b_))]) (rest := []) ⟨hx, hb, hml, hown, hts⟩ (kX7_common ln dg tq (x0 := x0) (xl := xl) (xh := xh) (xt := xt) (xp := xp) (xo := xo) (xu := xu) (xw := xw) (xlc := xlc) (c := c) (s := s) (hF := hF) (x := (nI (brE s b_ 0))) (y := (nI (lf s b_))) H.size) (cwV 2 hts gL_branches_X7_common rfl rfl rfl hdX7_common ⟨Nat.le_of_ble_eq_true rfl, Nat.le_of_ble_eq_true rfl⟩) (preVR hK hN hP [4, 5, 6] rfl 4 rfl rfl [.int (nI (brE s b_ 0)), .int (nI (lf s b_))]) rfl rfl hl.1 rfl (lv_room (Nat.le_of_ble_eq_true rfl)) dL_branches_131 ⟨Nat.le_refl _, Nat.le_refl _⟩) hP hS hA (fun H locs hP hS => ?_)
            refine r_top (show (cmR s (nI (brE s b_ 0)) (nI (lf s b_))) = (nI (meet s (brE s b_ 0) (lf s b_))) from cm_ (by omega) (by omega) (by omega)) ?_
            refine r_top (show (nI (meet s (brE s b_ 0) (lf s b_))) = (nI (brE s b_ 0)) from congrArg nI (meet_t hf2)) ?_
            refine lv_iload hx hb dL_branches_134 (lv_at hl 0 rfl) ?_
            refine r_icmp_ne (tgt := 212) hx hb (nI_tI (by omega)) (nI_tI (by omega)) dL_branches_136 (by decide) (fun c136 => False.elim (by omega)) (fun c136 => ?_)
            refine lv_aload_n hx hb dL_branches_139 rfl (lv_at hl 6 rfl) ?_
            refine lv_iload hx hb dL_branches_140 (lv_at hl 5 rfl) ?_
            refine lv_aload_n hx hb dL_branches_142 rfl (lv_at hl 6 rfl) ?_
            refine lv_iconst (v := (nI 1)) hx hb dL_branches_143 (by decide) ?_
            refine call_x (va_runV (As := [.int (nI 1)]) (rest := [.int (nI (lf s b_)), .ref x0]) ⟨hx, hb, hml, hown, hts⟩ (kX7_count ln dg tq (x0 := x0) (xl := xl) (xh := xh) (xt := xt) (xp := xp) (xo := xo) (xu := xu) (xw := xw) (xlc := xlc) (c := c) (s := s) (hF := hF) (xhc := xhc) (st := st) (nx := nx) (hc := hc) (xtc := xtc) (tl := tl) (tx := tx) (x := (nI 1)) H.size) (cwV 1 hts gL_branches_X7_count rfl rfl rfl hdX7_count ⟨Nat.le_of_ble_eq_true rfl, Nat.le_of_ble_eq_true rfl⟩) (preVR hK hN hP [4, 5, 6, 0, 1, 2, 3] rfl 4 rfl rfl [.int (nI 1)]) rfl rfl hl.1 rfl (lv_room (Nat.le_of_ble_eq_true rfl)) dL_branches_144 ⟨Nat.le_refl _, Nat.le_refl _⟩) hP hS hA (fun H locs hP hS => ?_)
            refine r_top (show (ctR s st tl (nI 1)) = (nI (hE s)) from ct_ (by omega)) ?_
            refine call_x (va_runV (As := [.int (nI (lf s b_)), .int (nI (hE s))]) (rest := []) ⟨hx, hb, hml, hown, hts⟩ (kX7_common ln dg tq (x0 := x0) (xl := xl) (xh := xh) (xt := xt) (xp := xp) (xo := xo) (xu := xu) (xw := xw) (xlc := xlc) (c := c) (s := s) (hF := hF) (x := (nI (lf s b_))) (y := (nI (hE s))) H.size) (cwV 2 hts gL_branches_X7_common rfl rfl rfl hdX7_common ⟨Nat.le_of_ble_eq_true rfl, Nat.le_of_ble_eq_true rfl⟩) (preVR hK hN hP [4, 5, 6] rfl 4 rfl rfl [.int (nI (lf s b_)), .int (nI (hE s))]) rfl rfl hl.1 rfl (lv_room (Nat.le_of_ble_eq_true rfl)) dL_branches_147 ⟨Nat.le_refl _, Nat.le_refl _⟩) hP hS hA (fun H locs hP hS => ?_)
            refine r_top (show (cmR s (nI (lf s b_)) (nI (hE s))) = (nI (meet s (lf s b_) (hE s))) from cm_ (by omega) (by omega) (by omega)) ?_
            refine lv_iload hx hb dL_branches_150 (lv_at hl 3 rfl) ?_
            refine r_icmp_ne (tgt := 212) hx hb (nI_tI (by omega)) (nI_tI (by omega)) dL_branches_152 (by decide) (fun c152 => False.elim (by omega)) (fun c152 => ?_)
            refine lv_aload_n hx hb dL_branches_155 rfl (lv_at hl 6 rfl) ?_
            refine lv_iload hx hb dL_branches_156 (lv_at hl 3 rfl) ?_
            refine lv_bipush (v := (nI 7)) hx hb dL_branches_158 (by decide) ?_
            refine call_w (wr := [(xh, .inr (0, [.ref xhc, .int (nI st), .int (nI nx)])), (xhc, .inl (tq.1, 7365, .inl hc)), (xt, .inr (6, [.ref xtc, .int (nI tl)])), (xtc, .inl (tq.1, 100, .inl tx))]) (va_runV (As := [.int (nI (meet s (lf s b_) (hE s))), .int (nI 7)]) (rest := []) ⟨hx, hb, hml, hown, hts⟩ (kX7_entry ln dg tq (x0 := x0) (xl := xl) (xh := xh) (xt := xt) (xp := xp) (xo := xo) (xu := xu) (xw := xw) (xlc := xlc) (c := c) (s := s) (hF := hF) (xus := xus) (uf := uf2110) (x := (nI (meet s (lf s b_) (hE s)))) (w := (nI 7)) H.size) (cwV 2 hts gL_branches_X7_entry rfl rfl rfl hdX7_entry ⟨Nat.le_of_ble_eq_true rfl, Nat.le_of_ble_eq_true rfl⟩) (preVB hK hN hP hD [4, 5, 6, 7, 8] rfl rfl rfl 4 rfl rfl [.int (nI (meet s (lf s b_) (hE s))), .int (nI 7)]) rfl rfl hl.1 rfl (lv_room (Nat.le_of_ble_eq_true rfl)) dL_branches_160 ⟨Nat.le_refl _, Nat.le_refl _⟩) hP hD hS hA [4, 5, 6, 7, 8] [0, 1, 2, 3] rfl rfl (by decide) (by decide) (fun r160 u160 H locs hw160 hP hD hS => ?_)
            obtain ⟨uf2160, rfl⟩ : ∃ z, z = u160 := ⟨_, rfl⟩
            have hP : va_P dg vwCl [(xh, .inr (0, [.ref xhc, .int (nI st), .int (nI nx)])), (xhc, .inl (tq.1, 7365, .inl hc)), (xt, .inr (6, [.ref xtc, .int (nI tl)])), (xtc, .inl (tq.1, 100, .inl tx)), (x0, .inr (7, [.ref xl, .ref xh, .ref xt, .ref xp, .ref xo, .ref xu, .ref xw])), (xl, .inr (1, [.ref xlc])), (xlc, .inl (tq.1, 1473, .inl c)), (xu, .inr (5, [.ref xus])), (xus, .inl (tq.1, 6, .inl uf2160))] H := hP
            have hD : va_D AA [(xh, .inr (0, [.ref xhc, .int (nI st), .int (nI nx)])), (xhc, .inl (tq.1, 7365, .inl hc)), (xt, .inr (6, [.ref xtc, .int (nI tl)])), (xtc, .inl (tq.1, 100, .inl tx)), (x0, .inr (7, [.ref xl, .ref xh, .ref xt, .ref xp, .ref xo, .ref xu, .ref xw])), (xl, .inr (1, [.ref xlc])), (xlc, .inl (tq.1, 1473, .inl c)), (xu, .inr (5, [.ref xus])), (xus, .inl (tq.1, 6, .inl uf2160))] := hD
            subst hw160
            refine r_top (show (etR s (nI (meet s (lf s b_) (hE s))) (nI 7)) = (nI 1) from (et_ (by omega) (by omega) (by omega)).trans (et7 hq2)) ?_
            refine lv_iconst (v := (nI 1)) hx hb dL_branches_163 (by decide) ?_
            refine r_icmp_ne (tgt := 212) hx hb (nI_tI (by omega)) (nI_tI (by omega)) dL_branches_164 (by decide) (fun c164 => False.elim (by omega)) (fun c164 => ?_)
            refine lv_iload hx hb dL_branches_167 (lv_at hl 4 rfl) ?_
            refine lv_iconst (v := (nI 1)) hx hb dL_branches_169 (by decide) ?_
            refine r_icmp_ne (tgt := 177) hx hb (nI_tI (by omega)) (nI_tI (by omega)) dL_branches_170 (by decide) (fun c170 => ?_) (fun c170 => False.elim (by omega))
            refine lv_iconst (v := (nI 0)) hx hb dL_branches_177 (by decide) ?_
            refine lv_iload hx hb dL_branches_178 (lv_at hl 4 rfl) ?_
            refine lv_iconst (v := (nI 2)) hx hb dL_branches_180 (by decide) ?_
            refine r_icmp_ge (tgt := 204) hx hb (nI_tI (by omega)) (nI_tI (by omega)) dL_branches_181 (by decide) (fun c181 => False.elim (by omega)) (fun c181 => ?_)
            refine lv_aload_n hx hb dL_branches_184 rfl (lv_at hl 6 rfl) ?_
            refine lv_iload hx hb dL_branches_185 (lv_at hl 8 rfl) ?_
            refine lv_iconst (v := (nI 3)) hx hb dL_branches_187 (by decide) ?_
            refine call_x (va_runV (As := [.int (nI b_), .int (nI 3)]) (rest := [.int (nI 0)]) ⟨hx, hb, hml, hown, hts⟩ (kX7_branch ln dg tq (x0 := x0) (xl := xl) (xh := xh) (xt := xt) (xp := xp) (xo := xo) (xu := xu) (xw := xw) (xlc := xlc) (c := c) (s := s) (hF := hF) (x := (nI b_)) (w := (nI 3)) H.size) (cwV 2 hts gL_branches_X7_branch rfl rfl rfl hdX7_branch ⟨Nat.le_of_ble_eq_true rfl, Nat.le_of_ble_eq_true rfl⟩) (preVR hK hN hP [4, 5, 6] rfl 4 rfl rfl [.int (nI b_), .int (nI 3)]) rfl rfl hl.1 rfl (lv_room (Nat.le_of_ble_eq_true rfl)) dL_branches_188 ⟨Nat.le_refl _, Nat.le_refl _⟩) hP hS hA (fun H locs hP hS => ?_)
            refine r_top (show (brR s (nI b_) (nI 3)) = (mb s b_ 2) from (br_ (by omega) (by omega) (by omega))) ?_
            refine lv_aload_n hx hb dL_branches_191 rfl (lv_at hl 6 rfl) ?_
            refine lv_bipush (v := (nI 6)) hx hb dL_branches_192 (by decide) ?_
            refine call_x (va_runV (As := [.int (nI 6)]) (rest := [.int (mb s b_ 2), .int (nI 0)]) ⟨hx, hb, hml, hown, hts⟩ (kX7_count ln dg tq (x0 := x0) (xl := xl) (xh := xh) (xt := xt) (xp := xp) (xo := xo) (xu := xu) (xw := xw) (xlc := xlc) (c := c) (s := s) (hF := hF) (xhc := xhc) (st := st) (nx := nx) (hc := hc) (xtc := xtc) (tl := tl) (tx := tx) (x := (nI 6)) H.size) (cwV 1 hts gL_branches_X7_count rfl rfl rfl hdX7_count ⟨Nat.le_of_ble_eq_true rfl, Nat.le_of_ble_eq_true rfl⟩) (preVR hK hN hP [4, 5, 6, 0, 1, 2, 3] rfl 4 rfl rfl [.int (nI 6)]) rfl rfl hl.1 rfl (lv_room (Nat.le_of_ble_eq_true rfl)) dL_branches_194 ⟨Nat.le_refl _, Nat.le_refl _⟩) hP hS hA (fun H locs hP hS => ?_)
            refine r_top (show (ctR s st tl (nI 6)) = (s 3) from ct_ (by omega)) ?_
            refine r_icmp_lt (tgt := 204) hx hb rfl rfl dL_branches_197 (by decide) (fun c197 => ?_) (fun c197 => False.elim (by have q := loud_f hld hwt; omega))
            refine lv_iconst (v := (nI 0)) hx hb dL_branches_204 (by decide) ?_
            refine r_icmp_ne (tgt := 212) hx hb (nI_tI (by omega)) (nI_tI (by omega)) dL_branches_205 (by decide) (fun c205 => False.elim (by omega)) (fun c205 => ?_)
            refine lv_iconst (v := (nI 1)) hx hb dL_branches_208 (by decide) ?_
            refine lv_goto (tgt := 213) hx hb dL_branches_209 (by decide) ?_
            refine lv_istore_n (lv' := [(3, .int (nI 1)), (8, .int (nI (brE s b_ 0))), (2, .int (nI (cntF (loudB s) (b_ + 1)))), (1, .int (nI (cntF (waitB s) (b_ + 1)))), (7, .int (nI (meet s (lf s b_) (hE s)))), (6, .int (nI 0)), (5, .int (nI (lf s b_))), (0, .ref x0), (4, .int (nI b_))]) hx hb dL_branches_213 rfl hl (by decide) rfl (fun ls hl => ?_)
            refine lv_iinc (v := (nI (b_ + 1))) (lv' := [(4, .int (nI (b_ + 1))), (3, .int (nI 1)), (8, .int (nI (brE s b_ 0))), (2, .int (nI (cntF (loudB s) (b_ + 1)))), (1, .int (nI (cntF (waitB s) (b_ + 1)))), (7, .int (nI (meet s (lf s b_) (hE s)))), (6, .int (nI 0)), (5, .int (nI (lf s b_))), (0, .ref x0)]) hx hb dL_branches_214 hl (k := 8) rfl (nI_add _ _) (by decide) rfl (fun ls hl => ?_)
            refine lv_goto (tgt := 9) hx hb dL_branches_217 (by decide) ?_
            exact ih9 (b_ + 1) uf2160 H locs ls (by omega) (by omega) (hP.sub [4, 5, 6, 0, 1, 2, 3, 7, 8] rfl) (hD.sub [4, 5, 6, 0, 1, 2, 3, 7, 8] (by decide) rfl) hS (lv_sub hl [8, 4, 3, 1, 0] rfl)
          · skip
            by_cases h2 : mb s b_ 3 = nI 2
            · skip
              refine lv_aload_n hx hb dL_branches_32 rfl (lv_at hl 1 rfl) ?_
              refine lv_iload hx hb dL_branches_33 (lv_at hl 5 rfl) ?_
              refine lv_iconst (v := (nI 4)) hx hb dL_branches_35 (by decide) ?_
              refine call_x (va_runV (As := [.int (nI b_), .int (nI 4)]) (rest := []) ⟨hx, hb, hml, hown, hts⟩ (kX7_branch ln dg tq (x0 := x0) (xl := xl) (xh := xh) (xt := xt) (xp := xp) (xo := xo) (xu := xu) (xw := xw) (xlc := xlc) (c := c) (s := s) (hF := hF) (x := (nI b_)) (w := (nI 4)) H.size) (cwV 2 hts gL_branches_X7_branch rfl rfl rfl hdX7_branch ⟨Nat.le_of_ble_eq_true rfl, Nat.le_of_ble_eq_true rfl⟩) (preVR hK hN hP [0, 1, 2] rfl 0 rfl rfl [.int (nI b_), .int (nI 4)]) rfl rfl hl.1 rfl (lv_room (Nat.le_of_ble_eq_true rfl)) dL_branches_36 ⟨Nat.le_refl _, Nat.le_refl _⟩) hP hS hA (fun H locs hP hS => ?_)
              refine r_top (show (brR s (nI b_) (nI 4)) = (brN s b_ 4) from (br_ (by omega) (by omega) (by omega))) ?_
              refine r_top (show (brN s b_ 4) = (nI 2) from (brN_n hld).trans h2) ?_
              refine lv_istore (lv' := [(6, .int (nI 2)), (5, .int (nI (lf s b_))), (0, .ref x0), (1, .int (nI (cntF (waitB s) b_))), (2, .int (nI (cntF (loudB s) b_))), (3, .int (nI 1)), (4, .int (nI b_))]) hx hb dL_branches_39 hl (by decide) rfl (fun ls hl => ?_)
              refine lv_aload_n hx hb dL_branches_41 rfl (lv_at hl 2 rfl) ?_
              refine lv_iload hx hb dL_branches_42 (lv_at hl 6 rfl) ?_
              refine lv_iconst (v := (nI 5)) hx hb dL_branches_44 (by decide) ?_
              refine call_x (va_runV (As := [.int (nI b_), .int (nI 5)]) (rest := []) ⟨hx, hb, hml, hown, hts⟩ (kX7_branch ln dg tq (x0 := x0) (xl := xl) (xh := xh) (xt := xt) (xp := xp) (xo := xo) (xu := xu) (xw := xw) (xlc := xlc) (c := c) (s := s) (hF := hF) (x := (nI b_)) (w := (nI 5)) H.size) (cwV 2 hts gL_branches_X7_branch rfl rfl rfl hdX7_branch ⟨Nat.le_of_ble_eq_true rfl, Nat.le_of_ble_eq_true rfl⟩) (preVR hK hN hP [0, 1, 2] rfl 0 rfl rfl [.int (nI b_), .int (nI 5)]) rfl rfl hl.1 rfl (lv_room (Nat.le_of_ble_eq_true rfl)) dL_branches_45 ⟨Nat.le_refl _, Nat.le_refl _⟩) hP hS hA (fun H locs hP hS => ?_)
              refine r_top (show (brR s (nI b_) (nI 5)) = (nI (meet s (lf s b_) (hE s))) from (br_ (by omega) (by omega) (by omega))) ?_
              refine lv_istore (lv' := [(7, .int (nI (meet s (lf s b_) (hE s)))), (6, .int (nI 2)), (5, .int (nI (lf s b_))), (0, .ref x0), (1, .int (nI (cntF (waitB s) b_))), (2, .int (nI (cntF (loudB s) b_))), (3, .int (nI 1)), (4, .int (nI b_))]) hx hb dL_branches_48 hl (by decide) rfl (fun ls hl => ?_)
              refine lv_iload_n hx hb dL_branches_50 rfl (lv_at hl 4 rfl) ?_
              refine lv_iload hx hb dL_branches_51 (lv_at hl 1 rfl) ?_
              refine lv_iconst (v := (nI 2)) hx hb dL_branches_53 (by decide) ?_
              refine r_icmp_ge (tgt := 61) hx hb (nI_tI (by omega)) (nI_tI (by omega)) dL_branches_54 (by decide) (fun c54 => ?_) (fun c54 => False.elim (by omega))
              refine lv_iconst (v := (nI 0)) hx hb dL_branches_61 (by decide) ?_
              refine r_iadd_n hx hb dL_branches_62 ?_
              refine lv_istore_n (lv' := [(1, .int (nI ((cntF (waitB s) b_) + 0))), (7, .int (nI (meet s (lf s b_) (hE s)))), (6, .int (nI 2)), (5, .int (nI (lf s b_))), (0, .ref x0), (2, .int (nI (cntF (loudB s) b_))), (3, .int (nI 1)), (4, .int (nI b_))]) hx hb dL_branches_63 rfl hl (by decide) rfl (fun ls hl => ?_)
              have hl : lv_has ls 9 [(1, .int (nI (cntF (waitB s) (b_ + 1)))), (7, .int (nI (meet s (lf s b_) (hE s)))), (6, .int (nI 2)), (5, .int (nI (lf s b_))), (0, .ref x0), (2, .int (nI (cntF (loudB s) b_))), (3, .int (nI 1)), (4, .int (nI b_))] := by have el : (nI ((cntF (waitB s) b_) + 0)) = (nI (cntF (waitB s) (b_ + 1))) := (cnt_s_f (not_t hwt)); rw [← el]; exact hl
              refine lv_iload_n hx hb dL_branches_64 rfl (lv_at hl 5 rfl) ?_
              refine lv_iload hx hb dL_branches_65 (lv_at hl 2 rfl) ?_
              refine lv_iconst (v := (nI 1)) hx hb dL_branches_67 (by decide) ?_
              refine r_icmp_ne (tgt := 75) hx hb (nI_tI (by omega)) (nI_tI (by omega)) dL_branches_68 (by decide) (fun c68 => ?_) (fun c68 => False.elim (by omega))
              refine lv_iconst (v := (nI 0)) hx hb dL_branches_75 (by decide) ?_
              refine r_iadd_n hx hb dL_branches_76 ?_
              refine lv_istore_n (lv' := [(2, .int (nI ((cntF (loudB s) b_) + 0))), (1, .int (nI (cntF (waitB s) (b_ + 1)))), (7, .int (nI (meet s (lf s b_) (hE s)))), (6, .int (nI 2)), (5, .int (nI (lf s b_))), (0, .ref x0), (3, .int (nI 1)), (4, .int (nI b_))]) hx hb dL_branches_77 rfl hl (by decide) rfl (fun ls hl => ?_)
              have hl : lv_has ls 9 [(2, .int (nI (cntF (loudB s) (b_ + 1)))), (1, .int (nI (cntF (waitB s) (b_ + 1)))), (7, .int (nI (meet s (lf s b_) (hE s)))), (6, .int (nI 2)), (5, .int (nI (lf s b_))), (0, .ref x0), (3, .int (nI 1)), (4, .int (nI b_))] := by have el : (nI ((cntF (loudB s) b_) + 0)) = (nI (cntF (loudB s) (b_ + 1))) := (cnt_s_f (not_t hld)); rw [← el]; exact hl
              refine lv_aload_n hx hb dL_branches_78 rfl (lv_at hl 5 rfl) ?_
              refine lv_iload hx hb dL_branches_79 (lv_at hl 7 rfl) ?_
              refine lv_iconst (v := (nI 2)) hx hb dL_branches_81 (by decide) ?_
              refine call_x (va_runV (As := [.int (nI b_), .int (nI 2)]) (rest := []) ⟨hx, hb, hml, hown, hts⟩ (kX7_branch ln dg tq (x0 := x0) (xl := xl) (xh := xh) (xt := xt) (xp := xp) (xo := xo) (xu := xu) (xw := xw) (xlc := xlc) (c := c) (s := s) (hF := hF) (x := (nI b_)) (w := (nI 2)) H.size) (cwV 2 hts gL_branches_X7_branch rfl rfl rfl hdX7_branch ⟨Nat.le_of_ble_eq_true rfl, Nat.le_of_ble_eq_true rfl⟩) (preVR hK hN hP [0, 1, 2] rfl 0 rfl rfl [.int (nI b_), .int (nI 2)]) rfl rfl hl.1 rfl (lv_room (Nat.le_of_ble_eq_true rfl)) dL_branches_82 ⟨Nat.le_refl _, Nat.le_refl _⟩) hP hS hA (fun H locs hP hS => ?_)
              refine r_top (show (brR s (nI b_) (nI 2)) = (nI (brE s b_ 0)) from (br_ (by omega) (by omega) (by omega))) ?_
              refine lv_istore (lv' := [(8, .int (nI (brE s b_ 0))), (2, .int (nI (cntF (loudB s) (b_ + 1)))), (1, .int (nI (cntF (waitB s) (b_ + 1)))), (7, .int (nI (meet s (lf s b_) (hE s)))), (6, .int (nI 2)), (5, .int (nI (lf s b_))), (0, .ref x0), (3, .int (nI 1)), (4, .int (nI b_))]) hx hb dL_branches_85 hl (by decide) rfl (fun ls hl => ?_)
              refine lv_aload_n hx hb dL_branches_87 rfl (lv_at hl 6 rfl) ?_
              refine lv_iload hx hb dL_branches_88 (lv_at hl 8 rfl) ?_
              refine lv_iconst (v := (nI 1)) hx hb dL_branches_90 (by decide) ?_
              refine call_x (va_runV (As := [.int (nI b_), .int (nI 1)]) (rest := []) ⟨hx, hb, hml, hown, hts⟩ (kX7_branch ln dg tq (x0 := x0) (xl := xl) (xh := xh) (xt := xt) (xp := xp) (xo := xo) (xu := xu) (xw := xw) (xlc := xlc) (c := c) (s := s) (hF := hF) (x := (nI b_)) (w := (nI 1)) H.size) (cwV 2 hts gL_branches_X7_branch rfl rfl rfl hdX7_branch ⟨Nat.le_of_ble_eq_true rfl, Nat.le_of_ble_eq_true rfl⟩) (preVR hK hN hP [0, 1, 2] rfl 0 rfl rfl [.int (nI b_), .int (nI 1)]) rfl rfl hl.1 rfl (lv_room (Nat.le_of_ble_eq_true rfl)) dL_branches_91 ⟨Nat.le_refl _, Nat.le_refl _⟩) hP hS hA (fun H locs hP hS => ?_)
              refine r_top (show (brR s (nI b_) (nI 1)) = (nI (mn s b_)) from (br_ (by omega) (by omega) (by omega))) ?_
              refine r_if_le (tgt := 212) hx hb (nI_tI (by omega)) dL_branches_94 (by decide) (fun c94 => False.elim (by omega)) (fun c94 => ?_)
              refine lv_aload_n hx hb dL_branches_97 rfl (lv_at hl 6 rfl) ?_
              refine lv_iload hx hb dL_branches_98 (lv_at hl 5 rfl) ?_
              refine lv_bipush (v := (nI 9)) hx hb dL_branches_100 (by decide) ?_
              refine call_w (wr := [(xh, .inr (0, [.ref xhc, .int (nI st), .int (nI nx)])), (xhc, .inl (tq.1, 7365, .inl hc)), (xt, .inr (6, [.ref xtc, .int (nI tl)])), (xtc, .inl (tq.1, 100, .inl tx))]) (va_runV (As := [.int (nI (lf s b_)), .int (nI 9)]) (rest := []) ⟨hx, hb, hml, hown, hts⟩ (kX7_entry ln dg tq (x0 := x0) (xl := xl) (xh := xh) (xt := xt) (xp := xp) (xo := xo) (xu := xu) (xw := xw) (xlc := xlc) (c := c) (s := s) (hF := hF) (xus := xus) (uf := f_) (x := (nI (lf s b_))) (w := (nI 9)) H.size) (cwV 2 hts gL_branches_X7_entry rfl rfl rfl hdX7_entry ⟨Nat.le_of_ble_eq_true rfl, Nat.le_of_ble_eq_true rfl⟩) (preVB hK hN hP hD [0, 1, 2, 7, 8] rfl rfl rfl 0 rfl rfl [.int (nI (lf s b_)), .int (nI 9)]) rfl rfl hl.1 rfl (lv_room (Nat.le_of_ble_eq_true rfl)) dL_branches_102 ⟨Nat.le_refl _, Nat.le_refl _⟩) hP hD hS hA [0, 1, 2, 7, 8] [3, 4, 5, 6] rfl rfl (by decide) (by decide) (fun r102 u102 H locs hw102 hP hD hS => ?_)
              obtain ⟨uf2102, rfl⟩ : ∃ z, z = u102 := ⟨_, rfl⟩
              have hP : va_P dg vwCl [(xh, .inr (0, [.ref xhc, .int (nI st), .int (nI nx)])), (xhc, .inl (tq.1, 7365, .inl hc)), (xt, .inr (6, [.ref xtc, .int (nI tl)])), (xtc, .inl (tq.1, 100, .inl tx)), (x0, .inr (7, [.ref xl, .ref xh, .ref xt, .ref xp, .ref xo, .ref xu, .ref xw])), (xl, .inr (1, [.ref xlc])), (xlc, .inl (tq.1, 1473, .inl c)), (xu, .inr (5, [.ref xus])), (xus, .inl (tq.1, 6, .inl uf2102))] H := hP
              have hD : va_D AA [(xh, .inr (0, [.ref xhc, .int (nI st), .int (nI nx)])), (xhc, .inl (tq.1, 7365, .inl hc)), (xt, .inr (6, [.ref xtc, .int (nI tl)])), (xtc, .inl (tq.1, 100, .inl tx)), (x0, .inr (7, [.ref xl, .ref xh, .ref xt, .ref xp, .ref xo, .ref xu, .ref xw])), (xl, .inr (1, [.ref xlc])), (xlc, .inl (tq.1, 1473, .inl c)), (xu, .inr (5, [.ref xus])), (xus, .inl (tq.1, 6, .inl uf2102))] := hD
              subst hw102
              refine r_top (show (etR s (nI (lf s b_)) (nI 9)) = (nI (dep s (lf s b_))) from (et_ (by omega) (by omega) (by omega))) ?_
              refine lv_aload_n hx hb dL_branches_105 rfl (lv_at hl 6 rfl) ?_
              refine lv_iload hx hb dL_branches_106 (lv_at hl 0 rfl) ?_
              refine lv_bipush (v := (nI 9)) hx hb dL_branches_108 (by decide) ?_
              refine call_w (wr := [(xh, .inr (0, [.ref xhc, .int (nI st), .int (nI nx)])), (xhc, .inl (tq.1, 7365, .inl hc)), (xt, .inr (6, [.ref xtc, .int (nI tl)])), (xtc, .inl (tq.1, 100, .inl tx))]) (va_runV (As := [.int (nI (brE s b_ 0)), .int (nI 9)]) (rest := [.int (nI (dep s (lf s b_)))]) ⟨hx, hb, hml, hown, hts⟩ (kX7_entry ln dg tq (x0 := x0) (xl := xl) (xh := xh) (xt := xt) (xp := xp) (xo := xo) (xu := xu) (xw := xw) (xlc := xlc) (c := c) (s := s) (hF := hF) (xus := xus) (uf := uf2102) (x := (nI (brE s b_ 0))) (w := (nI 9)) H.size) (cwV 2 hts gL_branches_X7_entry rfl rfl rfl hdX7_entry ⟨Nat.le_of_ble_eq_true rfl, Nat.le_of_ble_eq_true rfl⟩) (preVB hK hN hP hD [4, 5, 6, 7, 8] rfl rfl rfl 4 rfl rfl [.int (nI (brE s b_ 0)), .int (nI 9)]) rfl rfl hl.1 rfl (lv_room (Nat.le_of_ble_eq_true rfl)) dL_branches_110 ⟨Nat.le_refl _, Nat.le_refl _⟩) hP hD hS hA [4, 5, 6, 7, 8] [0, 1, 2, 3] rfl rfl (by decide) (by decide) (fun r110 u110 H locs hw110 hP hD hS => ?_)
              obtain ⟨uf2110, rfl⟩ : ∃ z, z = u110 := ⟨_, rfl⟩
              have hP : va_P dg vwCl [(xh, .inr (0, [.ref xhc, .int (nI st), .int (nI nx)])), (xhc, .inl (tq.1, 7365, .inl hc)), (xt, .inr (6, [.ref xtc, .int (nI tl)])), (xtc, .inl (tq.1, 100, .inl tx)), (x0, .inr (7, [.ref xl, .ref xh, .ref xt, .ref xp, .ref xo, .ref xu, .ref xw])), (xl, .inr (1, [.ref xlc])), (xlc, .inl (tq.1, 1473, .inl c)), (xu, .inr (5, [.ref xus])), (xus, .inl (tq.1, 6, .inl uf2110))] H := hP
              have hD : va_D AA [(xh, .inr (0, [.ref xhc, .int (nI st), .int (nI nx)])), (xhc, .inl (tq.1, 7365, .inl hc)), (xt, .inr (6, [.ref xtc, .int (nI tl)])), (xtc, .inl (tq.1, 100, .inl tx)), (x0, .inr (7, [.ref xl, .ref xh, .ref xt, .ref xp, .ref xo, .ref xu, .ref xw])), (xl, .inr (1, [.ref xlc])), (xlc, .inl (tq.1, 1473, .inl c)), (xu, .inr (5, [.ref xus])), (xus, .inl (tq.1, 6, .inl uf2110))] := hD
              subst hw110
              refine r_top (show (etR s (nI (brE s b_ 0)) (nI 9)) = (nI (dep s (brE s b_ 0))) from (et_ (by omega) (by omega) (by omega))) ?_
              refine r_isub_n hx hb (by omega) dL_branches_113 ?_
              refine lv_iconst (v := (nI 1)) hx hb dL_branches_114 (by decide) ?_
              refine r_iadd_n hx hb dL_branches_115 ?_
              refine lv_aload_n hx hb dL_branches_116 rfl (lv_at hl 6 rfl) ?_
              refine lv_iload hx hb dL_branches_117 (lv_at hl 8 rfl) ?_
              refine lv_iconst (v := (nI 1)) hx hb dL_branches_119 (by decide) ?_
              refine call_x (va_runV (As := [.int (nI b_), .int (nI 1)]) (rest := [.int (nI (((dep s (lf s b_)) - (dep s (brE s b_ 0))) + 1))]) ⟨hx, hb, hml, hown, hts⟩ (kX7_branch ln dg tq (x0 := x0) (xl := xl) (xh := xh) (xt := xt) (xp := xp) (xo := xo) (xu := xu) (xw := xw) (xlc := xlc) (c := c) (s := s) (hF := hF) (x := (nI b_)) (w := (nI 1)) H.size) (cwV 2 hts gL_branches_X7_branch rfl rfl rfl hdX7_branch ⟨Nat.le_of_ble_eq_true rfl, Nat.le_of_ble_eq_true rfl⟩) (preVR hK hN hP [4, 5, 6] rfl 4 rfl rfl [.int (nI b_), .int (nI 1)]) rfl rfl hl.1 rfl (lv_room (Nat.le_of_ble_eq_true rfl)) dL_branches_120 ⟨Nat.le_refl _, Nat.le_refl _⟩) hP hS hA (fun H locs hP hS => ?_)
              refine r_top (show (brR s (nI b_) (nI 1)) = (nI (mn s b_)) from (br_ (by omega) (by omega) (by omega))) ?_
              refine r_icmp_ne (tgt := 212) hx hb (nI_tI (by omega)) (nI_tI (by omega)) dL_branches_123 (by decide) (fun c123 => False.elim (by omega)) (fun c123 => ?_)
              refine lv_aload_n hx hb dL_branches_126 rfl (lv_at hl 6 rfl) ?_
              refine lv_iload hx hb dL_branches_127 (lv_at hl 0 rfl) ?_
              refine lv_iload hx hb dL_branches_129 (lv_at hl 5 rfl) ?_
              refine call_x (va_runV (As := [.int (nI (brE s b_ 0)), .int (nI (lf s b_))]) (rest := []) ⟨hx, hb, hml, hown, hts⟩ (kX7_common ln dg tq (x0 := x0) (xl := xl) (xh := xh) (xt := xt) (xp := xp) (xo := xo) (xu := xu) (xw := xw) (xlc := xlc) (c := c) (s := s) (hF := hF) (x := (nI (brE s b_ 0))) (y := (nI (lf s b_))) H.size) (cwV 2 hts gL_branches_X7_common rfl rfl rfl hdX7_common ⟨Nat.le_of_ble_eq_true rfl, Nat.le_of_ble_eq_true rfl⟩) (preVR hK hN hP [4, 5, 6] rfl 4 rfl rfl [.int (nI (brE s b_ 0)), .int (nI (lf s b_))]) rfl rfl hl.1 rfl (lv_room (Nat.le_of_ble_eq_true rfl)) dL_branches_131 ⟨Nat.le_refl _, Nat.le_refl _⟩) hP hS hA (fun H locs hP hS => ?_)
              refine r_top (show (cmR s (nI (brE s b_ 0)) (nI (lf s b_))) = (nI (meet s (brE s b_ 0) (lf s b_))) from cm_ (by omega) (by omega) (by omega)) ?_
              refine r_top (show (nI (meet s (brE s b_ 0) (lf s b_))) = (nI (brE s b_ 0)) from congrArg nI (meet_t hf2)) ?_
              refine lv_iload hx hb dL_branches_134 (lv_at hl 0 rfl) ?_
              refine r_icmp_ne (tgt := 212) hx hb (nI_tI (by omega)) (nI_tI (by omega)) dL_branches_136 (by decide) (fun c136 => False.elim (by omega)) (fun c136 => ?_)
              refine lv_aload_n hx hb dL_branches_139 rfl (lv_at hl 6 rfl) ?_
              refine lv_iload hx hb dL_branches_140 (lv_at hl 5 rfl) ?_
              refine lv_aload_n hx hb dL_branches_142 rfl (lv_at hl 6 rfl) ?_
              refine lv_iconst (v := (nI 1)) hx hb dL_branches_143 (by decide) ?_
              refine call_x (va_runV (As := [.int (nI 1)]) (rest := [.int (nI (lf s b_)), .ref x0]) ⟨hx, hb, hml, hown, hts⟩ (kX7_count ln dg tq (x0 := x0) (xl := xl) (xh := xh) (xt := xt) (xp := xp) (xo := xo) (xu := xu) (xw := xw) (xlc := xlc) (c := c) (s := s) (hF := hF) (xhc := xhc) (st := st) (nx := nx) (hc := hc) (xtc := xtc) (tl := tl) (tx := tx) (x := (nI 1)) H.size) (cwV 1 hts gL_branches_X7_count rfl rfl rfl hdX7_count ⟨Nat.le_of_ble_eq_true rfl, Nat.le_of_ble_eq_true rfl⟩) (preVR hK hN hP [4, 5, 6, 0, 1, 2, 3] rfl 4 rfl rfl [.int (nI 1)]) rfl rfl hl.1 rfl (lv_room (Nat.le_of_ble_eq_true rfl)) dL_branches_144 ⟨Nat.le_refl _, Nat.le_refl _⟩) hP hS hA (fun H locs hP hS => ?_)
              refine r_top (show (ctR s st tl (nI 1)) = (nI (hE s)) from ct_ (by omega)) ?_
              refine call_x (va_runV (As := [.int (nI (lf s b_)), .int (nI (hE s))]) (rest := []) ⟨hx, hb, hml, hown, hts⟩ (kX7_common ln dg tq (x0 := x0) (xl := xl) (xh := xh) (xt := xt) (xp := xp) (xo := xo) (xu := xu) (xw := xw) (xlc := xlc) (c := c) (s := s) (hF := hF) (x := (nI (lf s b_))) (y := (nI (hE s))) H.size) (cwV 2 hts gL_branches_X7_common rfl rfl rfl hdX7_common ⟨Nat.le_of_ble_eq_true rfl, Nat.le_of_ble_eq_true rfl⟩) (preVR hK hN hP [4, 5, 6] rfl 4 rfl rfl [.int (nI (lf s b_)), .int (nI (hE s))]) rfl rfl hl.1 rfl (lv_room (Nat.le_of_ble_eq_true rfl)) dL_branches_147 ⟨Nat.le_refl _, Nat.le_refl _⟩) hP hS hA (fun H locs hP hS => ?_)
              refine r_top (show (cmR s (nI (lf s b_)) (nI (hE s))) = (nI (meet s (lf s b_) (hE s))) from cm_ (by omega) (by omega) (by omega)) ?_
              refine lv_iload hx hb dL_branches_150 (lv_at hl 3 rfl) ?_
              refine r_icmp_ne (tgt := 212) hx hb (nI_tI (by omega)) (nI_tI (by omega)) dL_branches_152 (by decide) (fun c152 => False.elim (by omega)) (fun c152 => ?_)
              refine lv_aload_n hx hb dL_branches_155 rfl (lv_at hl 6 rfl) ?_
              refine lv_iload hx hb dL_branches_156 (lv_at hl 3 rfl) ?_
              refine lv_bipush (v := (nI 7)) hx hb dL_branches_158 (by decide) ?_
              refine call_w (wr := [(xh, .inr (0, [.ref xhc, .int (nI st), .int (nI nx)])), (xhc, .inl (tq.1, 7365, .inl hc)), (xt, .inr (6, [.ref xtc, .int (nI tl)])), (xtc, .inl (tq.1, 100, .inl tx))]) (va_runV (As := [.int (nI (meet s (lf s b_) (hE s))), .int (nI 7)]) (rest := []) ⟨hx, hb, hml, hown, hts⟩ (kX7_entry ln dg tq (x0 := x0) (xl := xl) (xh := xh) (xt := xt) (xp := xp) (xo := xo) (xu := xu) (xw := xw) (xlc := xlc) (c := c) (s := s) (hF := hF) (xus := xus) (uf := uf2110) (x := (nI (meet s (lf s b_) (hE s)))) (w := (nI 7)) H.size) (cwV 2 hts gL_branches_X7_entry rfl rfl rfl hdX7_entry ⟨Nat.le_of_ble_eq_true rfl, Nat.le_of_ble_eq_true rfl⟩) (preVB hK hN hP hD [4, 5, 6, 7, 8] rfl rfl rfl 4 rfl rfl [.int (nI (meet s (lf s b_) (hE s))), .int (nI 7)]) rfl rfl hl.1 rfl (lv_room (Nat.le_of_ble_eq_true rfl)) dL_branches_160 ⟨Nat.le_refl _, Nat.le_refl _⟩) hP hD hS hA [4, 5, 6, 7, 8] [0, 1, 2, 3] rfl rfl (by decide) (by decide) (fun r160 u160 H locs hw160 hP hD hS => ?_)
              obtain ⟨uf2160, rfl⟩ : ∃ z, z = u160 := ⟨_, rfl⟩
              have hP : va_P dg vwCl [(xh, .inr (0, [.ref xhc, .int (nI st), .int (nI nx)])), (xhc, .inl (tq.1, 7365, .inl hc)), (xt, .inr (6, [.ref xtc, .int (nI tl)])), (xtc, .inl (tq.1, 100, .inl tx)), (x0, .inr (7, [.ref xl, .ref xh, .ref xt, .ref xp, .ref xo, .ref xu, .ref xw])), (xl, .inr (1, [.ref xlc])), (xlc, .inl (tq.1, 1473, .inl c)), (xu, .inr (5, [.ref xus])), (xus, .inl (tq.1, 6, .inl uf2160))] H := hP
              have hD : va_D AA [(xh, .inr (0, [.ref xhc, .int (nI st), .int (nI nx)])), (xhc, .inl (tq.1, 7365, .inl hc)), (xt, .inr (6, [.ref xtc, .int (nI tl)])), (xtc, .inl (tq.1, 100, .inl tx)), (x0, .inr (7, [.ref xl, .ref xh, .ref xt, .ref xp, .ref xo, .ref xu, .ref xw])), (xl, .inr (1, [.ref xlc])), (xlc, .inl (tq.1, 1473, .inl c)), (xu, .inr (5, [.ref xus])), (xus, .inl (tq.1, 6, .inl uf2160))] := hD
              subst hw160
              refine r_top (show (etR s (nI (meet s (lf s b_) (hE s))) (nI 7)) = (nI 1) from (et_ (by omega) (by omega) (by omega)).trans (et7 hq2)) ?_
              refine lv_iconst (v := (nI 1)) hx hb dL_branches_163 (by decide) ?_
              refine r_icmp_ne (tgt := 212) hx hb (nI_tI (by omega)) (nI_tI (by omega)) dL_branches_164 (by decide) (fun c164 => False.elim (by omega)) (fun c164 => ?_)
              refine lv_iload hx hb dL_branches_167 (lv_at hl 4 rfl) ?_
              refine lv_iconst (v := (nI 1)) hx hb dL_branches_169 (by decide) ?_
              refine r_icmp_ne (tgt := 177) hx hb (nI_tI (by omega)) (nI_tI (by omega)) dL_branches_170 (by decide) (fun c170 => ?_) (fun c170 => False.elim (by omega))
              refine lv_iconst (v := (nI 0)) hx hb dL_branches_177 (by decide) ?_
              refine lv_iload hx hb dL_branches_178 (lv_at hl 4 rfl) ?_
              refine lv_iconst (v := (nI 2)) hx hb dL_branches_180 (by decide) ?_
              refine r_icmp_ge (tgt := 204) hx hb (nI_tI (by omega)) (nI_tI (by omega)) dL_branches_181 (by decide) (fun c181 => ?_) (fun c181 => False.elim (by omega))
              refine lv_iconst (v := (nI 0)) hx hb dL_branches_204 (by decide) ?_
              refine r_icmp_ne (tgt := 212) hx hb (nI_tI (by omega)) (nI_tI (by omega)) dL_branches_205 (by decide) (fun c205 => False.elim (by omega)) (fun c205 => ?_)
              refine lv_iconst (v := (nI 1)) hx hb dL_branches_208 (by decide) ?_
              refine lv_goto (tgt := 213) hx hb dL_branches_209 (by decide) ?_
              refine lv_istore_n (lv' := [(3, .int (nI 1)), (8, .int (nI (brE s b_ 0))), (2, .int (nI (cntF (loudB s) (b_ + 1)))), (1, .int (nI (cntF (waitB s) (b_ + 1)))), (7, .int (nI (meet s (lf s b_) (hE s)))), (6, .int (nI 2)), (5, .int (nI (lf s b_))), (0, .ref x0), (4, .int (nI b_))]) hx hb dL_branches_213 rfl hl (by decide) rfl (fun ls hl => ?_)
              refine lv_iinc (v := (nI (b_ + 1))) (lv' := [(4, .int (nI (b_ + 1))), (3, .int (nI 1)), (8, .int (nI (brE s b_ 0))), (2, .int (nI (cntF (loudB s) (b_ + 1)))), (1, .int (nI (cntF (waitB s) (b_ + 1)))), (7, .int (nI (meet s (lf s b_) (hE s)))), (6, .int (nI 2)), (5, .int (nI (lf s b_))), (0, .ref x0)]) hx hb dL_branches_214 hl (k := 8) rfl (nI_add _ _) (by decide) rfl (fun ls hl => ?_)
              refine lv_goto (tgt := 9) hx hb dL_branches_217 (by decide) ?_
              exact ih9 (b_ + 1) uf2160 H locs ls (by omega) (by omega) (hP.sub [4, 5, 6, 0, 1, 2, 3, 7, 8] rfl) (hD.sub [4, 5, 6, 0, 1, 2, 3, 7, 8] (by decide) rfl) hS (lv_sub hl [8, 4, 3, 1, 0] rfl)
            · skip
              refine lv_aload_n hx hb dL_branches_32 rfl (lv_at hl 1 rfl) ?_
              refine lv_iload hx hb dL_branches_33 (lv_at hl 5 rfl) ?_
              refine lv_iconst (v := (nI 4)) hx hb dL_branches_35 (by decide) ?_
              refine call_x (va_runV (As := [.int (nI b_), .int (nI 4)]) (rest := []) ⟨hx, hb, hml, hown, hts⟩ (kX7_branch ln dg tq (x0 := x0) (xl := xl) (xh := xh) (xt := xt) (xp := xp) (xo := xo) (xu := xu) (xw := xw) (xlc := xlc) (c := c) (s := s) (hF := hF) (x := (nI b_)) (w := (nI 4)) H.size) (cwV 2 hts gL_branches_X7_branch rfl rfl rfl hdX7_branch ⟨Nat.le_of_ble_eq_true rfl, Nat.le_of_ble_eq_true rfl⟩) (preVR hK hN hP [0, 1, 2] rfl 0 rfl rfl [.int (nI b_), .int (nI 4)]) rfl rfl hl.1 rfl (lv_room (Nat.le_of_ble_eq_true rfl)) dL_branches_36 ⟨Nat.le_refl _, Nat.le_refl _⟩) hP hS hA (fun H locs hP hS => ?_)
              refine r_top (show (brR s (nI b_) (nI 4)) = (brN s b_ 4) from (br_ (by omega) (by omega) (by omega))) ?_
              refine r_top (show (brN s b_ 4) = (nI 3) from (brN_n hld).trans (wait_st hX (by omega) hwt h2)) ?_
              refine lv_istore (lv' := [(6, .int (nI 3)), (5, .int (nI (lf s b_))), (0, .ref x0), (1, .int (nI (cntF (waitB s) b_))), (2, .int (nI (cntF (loudB s) b_))), (3, .int (nI 1)), (4, .int (nI b_))]) hx hb dL_branches_39 hl (by decide) rfl (fun ls hl => ?_)
              refine lv_aload_n hx hb dL_branches_41 rfl (lv_at hl 2 rfl) ?_
              refine lv_iload hx hb dL_branches_42 (lv_at hl 6 rfl) ?_
              refine lv_iconst (v := (nI 5)) hx hb dL_branches_44 (by decide) ?_
              refine call_x (va_runV (As := [.int (nI b_), .int (nI 5)]) (rest := []) ⟨hx, hb, hml, hown, hts⟩ (kX7_branch ln dg tq (x0 := x0) (xl := xl) (xh := xh) (xt := xt) (xp := xp) (xo := xo) (xu := xu) (xw := xw) (xlc := xlc) (c := c) (s := s) (hF := hF) (x := (nI b_)) (w := (nI 5)) H.size) (cwV 2 hts gL_branches_X7_branch rfl rfl rfl hdX7_branch ⟨Nat.le_of_ble_eq_true rfl, Nat.le_of_ble_eq_true rfl⟩) (preVR hK hN hP [0, 1, 2] rfl 0 rfl rfl [.int (nI b_), .int (nI 5)]) rfl rfl hl.1 rfl (lv_room (Nat.le_of_ble_eq_true rfl)) dL_branches_45 ⟨Nat.le_refl _, Nat.le_refl _⟩) hP hS hA (fun H locs hP hS => ?_)
              refine r_top (show (brR s (nI b_) (nI 5)) = (nI (meet s (lf s b_) (hE s))) from (br_ (by omega) (by omega) (by omega))) ?_
              refine lv_istore (lv' := [(7, .int (nI (meet s (lf s b_) (hE s)))), (6, .int (nI 3)), (5, .int (nI (lf s b_))), (0, .ref x0), (1, .int (nI (cntF (waitB s) b_))), (2, .int (nI (cntF (loudB s) b_))), (3, .int (nI 1)), (4, .int (nI b_))]) hx hb dL_branches_48 hl (by decide) rfl (fun ls hl => ?_)
              refine lv_iload_n hx hb dL_branches_50 rfl (lv_at hl 4 rfl) ?_
              refine lv_iload hx hb dL_branches_51 (lv_at hl 1 rfl) ?_
              refine lv_iconst (v := (nI 2)) hx hb dL_branches_53 (by decide) ?_
              refine r_icmp_ge (tgt := 61) hx hb (nI_tI (by omega)) (nI_tI (by omega)) dL_branches_54 (by decide) (fun c54 => ?_) (fun c54 => False.elim (by omega))
              refine lv_iconst (v := (nI 0)) hx hb dL_branches_61 (by decide) ?_
              refine r_iadd_n hx hb dL_branches_62 ?_
              refine lv_istore_n (lv' := [(1, .int (nI ((cntF (waitB s) b_) + 0))), (7, .int (nI (meet s (lf s b_) (hE s)))), (6, .int (nI 3)), (5, .int (nI (lf s b_))), (0, .ref x0), (2, .int (nI (cntF (loudB s) b_))), (3, .int (nI 1)), (4, .int (nI b_))]) hx hb dL_branches_63 rfl hl (by decide) rfl (fun ls hl => ?_)
              have hl : lv_has ls 9 [(1, .int (nI (cntF (waitB s) (b_ + 1)))), (7, .int (nI (meet s (lf s b_) (hE s)))), (6, .int (nI 3)), (5, .int (nI (lf s b_))), (0, .ref x0), (2, .int (nI (cntF (loudB s) b_))), (3, .int (nI 1)), (4, .int (nI b_))] := by have el : (nI ((cntF (waitB s) b_) + 0)) = (nI (cntF (waitB s) (b_ + 1))) := (cnt_s_f (not_t hwt)); rw [← el]; exact hl
              refine lv_iload_n hx hb dL_branches_64 rfl (lv_at hl 5 rfl) ?_
              refine lv_iload hx hb dL_branches_65 (lv_at hl 2 rfl) ?_
              refine lv_iconst (v := (nI 1)) hx hb dL_branches_67 (by decide) ?_
              refine r_icmp_ne (tgt := 75) hx hb (nI_tI (by omega)) (nI_tI (by omega)) dL_branches_68 (by decide) (fun c68 => ?_) (fun c68 => False.elim (by omega))
              refine lv_iconst (v := (nI 0)) hx hb dL_branches_75 (by decide) ?_
              refine r_iadd_n hx hb dL_branches_76 ?_
              refine lv_istore_n (lv' := [(2, .int (nI ((cntF (loudB s) b_) + 0))), (1, .int (nI (cntF (waitB s) (b_ + 1)))), (7, .int (nI (meet s (lf s b_) (hE s)))), (6, .int (nI 3)), (5, .int (nI (lf s b_))), (0, .ref x0), (3, .int (nI 1)), (4, .int (nI b_))]) hx hb dL_branches_77 rfl hl (by decide) rfl (fun ls hl => ?_)
              have hl : lv_has ls 9 [(2, .int (nI (cntF (loudB s) (b_ + 1)))), (1, .int (nI (cntF (waitB s) (b_ + 1)))), (7, .int (nI (meet s (lf s b_) (hE s)))), (6, .int (nI 3)), (5, .int (nI (lf s b_))), (0, .ref x0), (3, .int (nI 1)), (4, .int (nI b_))] := by have el : (nI ((cntF (loudB s) b_) + 0)) = (nI (cntF (loudB s) (b_ + 1))) := (cnt_s_f (not_t hld)); rw [← el]; exact hl
              refine lv_aload_n hx hb dL_branches_78 rfl (lv_at hl 5 rfl) ?_
              refine lv_iload hx hb dL_branches_79 (lv_at hl 7 rfl) ?_
              refine lv_iconst (v := (nI 2)) hx hb dL_branches_81 (by decide) ?_
              refine call_x (va_runV (As := [.int (nI b_), .int (nI 2)]) (rest := []) ⟨hx, hb, hml, hown, hts⟩ (kX7_branch ln dg tq (x0 := x0) (xl := xl) (xh := xh) (xt := xt) (xp := xp) (xo := xo) (xu := xu) (xw := xw) (xlc := xlc) (c := c) (s := s) (hF := hF) (x := (nI b_)) (w := (nI 2)) H.size) (cwV 2 hts gL_branches_X7_branch rfl rfl rfl hdX7_branch ⟨Nat.le_of_ble_eq_true rfl, Nat.le_of_ble_eq_true rfl⟩) (preVR hK hN hP [0, 1, 2] rfl 0 rfl rfl [.int (nI b_), .int (nI 2)]) rfl rfl hl.1 rfl (lv_room (Nat.le_of_ble_eq_true rfl)) dL_branches_82 ⟨Nat.le_refl _, Nat.le_refl _⟩) hP hS hA (fun H locs hP hS => ?_)
              refine r_top (show (brR s (nI b_) (nI 2)) = (nI (brE s b_ 0)) from (br_ (by omega) (by omega) (by omega))) ?_
              refine lv_istore (lv' := [(8, .int (nI (brE s b_ 0))), (2, .int (nI (cntF (loudB s) (b_ + 1)))), (1, .int (nI (cntF (waitB s) (b_ + 1)))), (7, .int (nI (meet s (lf s b_) (hE s)))), (6, .int (nI 3)), (5, .int (nI (lf s b_))), (0, .ref x0), (3, .int (nI 1)), (4, .int (nI b_))]) hx hb dL_branches_85 hl (by decide) rfl (fun ls hl => ?_)
              refine lv_aload_n hx hb dL_branches_87 rfl (lv_at hl 6 rfl) ?_
              refine lv_iload hx hb dL_branches_88 (lv_at hl 8 rfl) ?_
              refine lv_iconst (v := (nI 1)) hx hb dL_branches_90 (by decide) ?_
              refine call_x (va_runV (As := [.int (nI b_), .int (nI 1)]) (rest := []) ⟨hx, hb, hml, hown, hts⟩ (kX7_branch ln dg tq (x0 := x0) (xl := xl) (xh := xh) (xt := xt) (xp := xp) (xo := xo) (xu := xu) (xw := xw) (xlc := xlc) (c := c) (s := s) (hF := hF) (x := (nI b_)) (w := (nI 1)) H.size) (cwV 2 hts gL_branches_X7_branch rfl rfl rfl hdX7_branch ⟨Nat.le_of_ble_eq_true rfl, Nat.le_of_ble_eq_true rfl⟩) (preVR hK hN hP [0, 1, 2] rfl 0 rfl rfl [.int (nI b_), .int (nI 1)]) rfl rfl hl.1 rfl (lv_room (Nat.le_of_ble_eq_true rfl)) dL_branches_91 ⟨Nat.le_refl _, Nat.le_refl _⟩) hP hS hA (fun H locs hP hS => ?_)
              refine r_top (show (brR s (nI b_) (nI 1)) = (nI (mn s b_)) from (br_ (by omega) (by omega) (by omega))) ?_
              refine r_if_le (tgt := 212) hx hb (nI_tI (by omega)) dL_branches_94 (by decide) (fun c94 => False.elim (by omega)) (fun c94 => ?_)
              refine lv_aload_n hx hb dL_branches_97 rfl (lv_at hl 6 rfl) ?_
              refine lv_iload hx hb dL_branches_98 (lv_at hl 5 rfl) ?_
              refine lv_bipush (v := (nI 9)) hx hb dL_branches_100 (by decide) ?_
              refine call_w (wr := [(xh, .inr (0, [.ref xhc, .int (nI st), .int (nI nx)])), (xhc, .inl (tq.1, 7365, .inl hc)), (xt, .inr (6, [.ref xtc, .int (nI tl)])), (xtc, .inl (tq.1, 100, .inl tx))]) (va_runV (As := [.int (nI (lf s b_)), .int (nI 9)]) (rest := []) ⟨hx, hb, hml, hown, hts⟩ (kX7_entry ln dg tq (x0 := x0) (xl := xl) (xh := xh) (xt := xt) (xp := xp) (xo := xo) (xu := xu) (xw := xw) (xlc := xlc) (c := c) (s := s) (hF := hF) (xus := xus) (uf := f_) (x := (nI (lf s b_))) (w := (nI 9)) H.size) (cwV 2 hts gL_branches_X7_entry rfl rfl rfl hdX7_entry ⟨Nat.le_of_ble_eq_true rfl, Nat.le_of_ble_eq_true rfl⟩) (preVB hK hN hP hD [0, 1, 2, 7, 8] rfl rfl rfl 0 rfl rfl [.int (nI (lf s b_)), .int (nI 9)]) rfl rfl hl.1 rfl (lv_room (Nat.le_of_ble_eq_true rfl)) dL_branches_102 ⟨Nat.le_refl _, Nat.le_refl _⟩) hP hD hS hA [0, 1, 2, 7, 8] [3, 4, 5, 6] rfl rfl (by decide) (by decide) (fun r102 u102 H locs hw102 hP hD hS => ?_)
              obtain ⟨uf2102, rfl⟩ : ∃ z, z = u102 := ⟨_, rfl⟩
              have hP : va_P dg vwCl [(xh, .inr (0, [.ref xhc, .int (nI st), .int (nI nx)])), (xhc, .inl (tq.1, 7365, .inl hc)), (xt, .inr (6, [.ref xtc, .int (nI tl)])), (xtc, .inl (tq.1, 100, .inl tx)), (x0, .inr (7, [.ref xl, .ref xh, .ref xt, .ref xp, .ref xo, .ref xu, .ref xw])), (xl, .inr (1, [.ref xlc])), (xlc, .inl (tq.1, 1473, .inl c)), (xu, .inr (5, [.ref xus])), (xus, .inl (tq.1, 6, .inl uf2102))] H := hP
              have hD : va_D AA [(xh, .inr (0, [.ref xhc, .int (nI st), .int (nI nx)])), (xhc, .inl (tq.1, 7365, .inl hc)), (xt, .inr (6, [.ref xtc, .int (nI tl)])), (xtc, .inl (tq.1, 100, .inl tx)), (x0, .inr (7, [.ref xl, .ref xh, .ref xt, .ref xp, .ref xo, .ref xu, .ref xw])), (xl, .inr (1, [.ref xlc])), (xlc, .inl (tq.1, 1473, .inl c)), (xu, .inr (5, [.ref xus])), (xus, .inl (tq.1, 6, .inl uf2102))] := hD
              subst hw102
              refine r_top (show (etR s (nI (lf s b_)) (nI 9)) = (nI (dep s (lf s b_))) from (et_ (by omega) (by omega) (by omega))) ?_
              refine lv_aload_n hx hb dL_branches_105 rfl (lv_at hl 6 rfl) ?_
              refine lv_iload hx hb dL_branches_106 (lv_at hl 0 rfl) ?_
              refine lv_bipush (v := (nI 9)) hx hb dL_branches_108 (by decide) ?_
              refine call_w (wr := [(xh, .inr (0, [.ref xhc, .int (nI st), .int (nI nx)])), (xhc, .inl (tq.1, 7365, .inl hc)), (xt, .inr (6, [.ref xtc, .int (nI tl)])), (xtc, .inl (tq.1, 100, .inl tx))]) (va_runV (As := [.int (nI (brE s b_ 0)), .int (nI 9)]) (rest := [.int (nI (dep s (lf s b_)))]) ⟨hx, hb, hml, hown, hts⟩ (kX7_entry ln dg tq (x0 := x0) (xl := xl) (xh := xh) (xt := xt) (xp := xp) (xo := xo) (xu := xu) (xw := xw) (xlc := xlc) (c := c) (s := s) (hF := hF) (xus := xus) (uf := uf2102) (x := (nI (brE s b_ 0))) (w := (nI 9)) H.size) (cwV 2 hts gL_branches_X7_entry rfl rfl rfl hdX7_entry ⟨Nat.le_of_ble_eq_true rfl, Nat.le_of_ble_eq_true rfl⟩) (preVB hK hN hP hD [4, 5, 6, 7, 8] rfl rfl rfl 4 rfl rfl [.int (nI (brE s b_ 0)), .int (nI 9)]) rfl rfl hl.1 rfl (lv_room (Nat.le_of_ble_eq_true rfl)) dL_branches_110 ⟨Nat.le_refl _, Nat.le_refl _⟩) hP hD hS hA [4, 5, 6, 7, 8] [0, 1, 2, 3] rfl rfl (by decide) (by decide) (fun r110 u110 H locs hw110 hP hD hS => ?_)
              obtain ⟨uf2110, rfl⟩ : ∃ z, z = u110 := ⟨_, rfl⟩
              have hP : va_P dg vwCl [(xh, .inr (0, [.ref xhc, .int (nI st), .int (nI nx)])), (xhc, .inl (tq.1, 7365, .inl hc)), (xt, .inr (6, [.ref xtc, .int (nI tl)])), (xtc, .inl (tq.1, 100, .inl tx)), (x0, .inr (7, [.ref xl, .ref xh, .ref xt, .ref xp, .ref xo, .ref xu, .ref xw])), (xl, .inr (1, [.ref xlc])), (xlc, .inl (tq.1, 1473, .inl c)), (xu, .inr (5, [.ref xus])), (xus, .inl (tq.1, 6, .inl uf2110))] H := hP
              have hD : va_D AA [(xh, .inr (0, [.ref xhc, .int (nI st), .int (nI nx)])), (xhc, .inl (tq.1, 7365, .inl hc)), (xt, .inr (6, [.ref xtc, .int (nI tl)])), (xtc, .inl (tq.1, 100, .inl tx)), (x0, .inr (7, [.ref xl, .ref xh, .ref xt, .ref xp, .ref xo, .ref xu, .ref xw])), (xl, .inr (1, [.ref xlc])), (xlc, .inl (tq.1, 1473, .inl c)), (xu, .inr (5, [.ref xus])), (xus, .inl (tq.1, 6, .inl uf2110))] := hD
              subst hw110
              refine r_top (show (etR s (nI (brE s b_ 0)) (nI 9)) = (nI (dep s (brE s b_ 0))) from (et_ (by omega) (by omega) (by omega))) ?_
              refine r_isub_n hx hb (by omega) dL_branches_113 ?_
              refine lv_iconst (v := (nI 1)) hx hb dL_branches_114 (by decide) ?_
              refine r_iadd_n hx hb dL_branches_115 ?_
              refine lv_aload_n hx hb dL_branches_116 rfl (lv_at hl 6 rfl) ?_
              refine lv_iload hx hb dL_branches_117 (lv_at hl 8 rfl) ?_
              refine lv_iconst (v := (nI 1)) hx hb dL_branches_119 (by decide) ?_
              refine call_x (va_runV (As := [.int (nI b_), .int (nI 1)]) (rest := [.int (nI (((dep s (lf s b_)) - (dep s (brE s b_ 0))) + 1))]) ⟨hx, hb, hml, hown, hts⟩ (kX7_branch ln dg tq (x0 := x0) (xl := xl) (xh := xh) (xt := xt) (xp := xp) (xo := xo) (xu := xu) (xw := xw) (xlc := xlc) (c := c) (s := s) (hF := hF) (x := (nI b_)) (w := (nI 1)) H.size) (cwV 2 hts gL_branches_X7_branch rfl rfl rfl hdX7_branch ⟨Nat.le_of_ble_eq_true rfl, Nat.le_of_ble_eq_true rfl⟩) (preVR hK hN hP [4, 5, 6] rfl 4 rfl rfl [.int (nI b_), .int (nI 1)]) rfl rfl hl.1 rfl (lv_room (Nat.le_of_ble_eq_true rfl)) dL_branches_120 ⟨Nat.le_refl _, Nat.le_refl _⟩) hP hS hA (fun H locs hP hS => ?_)
              refine r_top (show (brR s (nI b_) (nI 1)) = (nI (mn s b_)) from (br_ (by omega) (by omega) (by omega))) ?_
              refine r_icmp_ne (tgt := 212) hx hb (nI_tI (by omega)) (nI_tI (by omega)) dL_branches_123 (by decide) (fun c123 => False.elim (by omega)) (fun c123 => ?_)
              refine lv_aload_n hx hb dL_branches_126 rfl (lv_at hl 6 rfl) ?_
              refine lv_iload hx hb dL_branches_127 (lv_at hl 0 rfl) ?_
              refine lv_iload hx hb dL_branches_129 (lv_at hl 5 rfl) ?_
              refine call_x (va_runV (As := [.int (nI (brE s b_ 0)), .int (nI (lf s b_))]) (rest := []) ⟨hx, hb, hml, hown, hts⟩ (kX7_common ln dg tq (x0 := x0) (xl := xl) (xh := xh) (xt := xt) (xp := xp) (xo := xo) (xu := xu) (xw := xw) (xlc := xlc) (c := c) (s := s) (hF := hF) (x := (nI (brE s b_ 0))) (y := (nI (lf s b_))) H.size) (cwV 2 hts gL_branches_X7_common rfl rfl rfl hdX7_common ⟨Nat.le_of_ble_eq_true rfl, Nat.le_of_ble_eq_true rfl⟩) (preVR hK hN hP [4, 5, 6] rfl 4 rfl rfl [.int (nI (brE s b_ 0)), .int (nI (lf s b_))]) rfl rfl hl.1 rfl (lv_room (Nat.le_of_ble_eq_true rfl)) dL_branches_131 ⟨Nat.le_refl _, Nat.le_refl _⟩) hP hS hA (fun H locs hP hS => ?_)
              refine r_top (show (cmR s (nI (brE s b_ 0)) (nI (lf s b_))) = (nI (meet s (brE s b_ 0) (lf s b_))) from cm_ (by omega) (by omega) (by omega)) ?_
              refine r_top (show (nI (meet s (brE s b_ 0) (lf s b_))) = (nI (brE s b_ 0)) from congrArg nI (meet_t hf2)) ?_
              refine lv_iload hx hb dL_branches_134 (lv_at hl 0 rfl) ?_
              refine r_icmp_ne (tgt := 212) hx hb (nI_tI (by omega)) (nI_tI (by omega)) dL_branches_136 (by decide) (fun c136 => False.elim (by omega)) (fun c136 => ?_)
              refine lv_aload_n hx hb dL_branches_139 rfl (lv_at hl 6 rfl) ?_
              refine lv_iload hx hb dL_branches_140 (lv_at hl 5 rfl) ?_
              refine lv_aload_n hx hb dL_branches_142 rfl (lv_at hl 6 rfl) ?_
              refine lv_iconst (v := (nI 1)) hx hb dL_branches_143 (by decide) ?_
              refine call_x (va_runV (As := [.int (nI 1)]) (rest := [.int (nI (lf s b_)), .ref x0]) ⟨hx, hb, hml, hown, hts⟩ (kX7_count ln dg tq (x0 := x0) (xl := xl) (xh := xh) (xt := xt) (xp := xp) (xo := xo) (xu := xu) (xw := xw) (xlc := xlc) (c := c) (s := s) (hF := hF) (xhc := xhc) (st := st) (nx := nx) (hc := hc) (xtc := xtc) (tl := tl) (tx := tx) (x := (nI 1)) H.size) (cwV 1 hts gL_branches_X7_count rfl rfl rfl hdX7_count ⟨Nat.le_of_ble_eq_true rfl, Nat.le_of_ble_eq_true rfl⟩) (preVR hK hN hP [4, 5, 6, 0, 1, 2, 3] rfl 4 rfl rfl [.int (nI 1)]) rfl rfl hl.1 rfl (lv_room (Nat.le_of_ble_eq_true rfl)) dL_branches_144 ⟨Nat.le_refl _, Nat.le_refl _⟩) hP hS hA (fun H locs hP hS => ?_)
              refine r_top (show (ctR s st tl (nI 1)) = (nI (hE s)) from ct_ (by omega)) ?_
              refine call_x (va_runV (As := [.int (nI (lf s b_)), .int (nI (hE s))]) (rest := []) ⟨hx, hb, hml, hown, hts⟩ (kX7_common ln dg tq (x0 := x0) (xl := xl) (xh := xh) (xt := xt) (xp := xp) (xo := xo) (xu := xu) (xw := xw) (xlc := xlc) (c := c) (s := s) (hF := hF) (x := (nI (lf s b_))) (y := (nI (hE s))) H.size) (cwV 2 hts gL_branches_X7_common rfl rfl rfl hdX7_common ⟨Nat.le_of_ble_eq_true rfl, Nat.le_of_ble_eq_true rfl⟩) (preVR hK hN hP [4, 5, 6] rfl 4 rfl rfl [.int (nI (lf s b_)), .int (nI (hE s))]) rfl rfl hl.1 rfl (lv_room (Nat.le_of_ble_eq_true rfl)) dL_branches_147 ⟨Nat.le_refl _, Nat.le_refl _⟩) hP hS hA (fun H locs hP hS => ?_)
              refine r_top (show (cmR s (nI (lf s b_)) (nI (hE s))) = (nI (meet s (lf s b_) (hE s))) from cm_ (by omega) (by omega) (by omega)) ?_
              refine lv_iload hx hb dL_branches_150 (lv_at hl 3 rfl) ?_
              refine r_icmp_ne (tgt := 212) hx hb (nI_tI (by omega)) (nI_tI (by omega)) dL_branches_152 (by decide) (fun c152 => False.elim (by omega)) (fun c152 => ?_)
              refine lv_aload_n hx hb dL_branches_155 rfl (lv_at hl 6 rfl) ?_
              refine lv_iload hx hb dL_branches_156 (lv_at hl 3 rfl) ?_
              refine lv_bipush (v := (nI 7)) hx hb dL_branches_158 (by decide) ?_
              refine call_w (wr := [(xh, .inr (0, [.ref xhc, .int (nI st), .int (nI nx)])), (xhc, .inl (tq.1, 7365, .inl hc)), (xt, .inr (6, [.ref xtc, .int (nI tl)])), (xtc, .inl (tq.1, 100, .inl tx))]) (va_runV (As := [.int (nI (meet s (lf s b_) (hE s))), .int (nI 7)]) (rest := []) ⟨hx, hb, hml, hown, hts⟩ (kX7_entry ln dg tq (x0 := x0) (xl := xl) (xh := xh) (xt := xt) (xp := xp) (xo := xo) (xu := xu) (xw := xw) (xlc := xlc) (c := c) (s := s) (hF := hF) (xus := xus) (uf := uf2110) (x := (nI (meet s (lf s b_) (hE s)))) (w := (nI 7)) H.size) (cwV 2 hts gL_branches_X7_entry rfl rfl rfl hdX7_entry ⟨Nat.le_of_ble_eq_true rfl, Nat.le_of_ble_eq_true rfl⟩) (preVB hK hN hP hD [4, 5, 6, 7, 8] rfl rfl rfl 4 rfl rfl [.int (nI (meet s (lf s b_) (hE s))), .int (nI 7)]) rfl rfl hl.1 rfl (lv_room (Nat.le_of_ble_eq_true rfl)) dL_branches_160 ⟨Nat.le_refl _, Nat.le_refl _⟩) hP hD hS hA [4, 5, 6, 7, 8] [0, 1, 2, 3] rfl rfl (by decide) (by decide) (fun r160 u160 H locs hw160 hP hD hS => ?_)
              obtain ⟨uf2160, rfl⟩ : ∃ z, z = u160 := ⟨_, rfl⟩
              have hP : va_P dg vwCl [(xh, .inr (0, [.ref xhc, .int (nI st), .int (nI nx)])), (xhc, .inl (tq.1, 7365, .inl hc)), (xt, .inr (6, [.ref xtc, .int (nI tl)])), (xtc, .inl (tq.1, 100, .inl tx)), (x0, .inr (7, [.ref xl, .ref xh, .ref xt, .ref xp, .ref xo, .ref xu, .ref xw])), (xl, .inr (1, [.ref xlc])), (xlc, .inl (tq.1, 1473, .inl c)), (xu, .inr (5, [.ref xus])), (xus, .inl (tq.1, 6, .inl uf2160))] H := hP
              have hD : va_D AA [(xh, .inr (0, [.ref xhc, .int (nI st), .int (nI nx)])), (xhc, .inl (tq.1, 7365, .inl hc)), (xt, .inr (6, [.ref xtc, .int (nI tl)])), (xtc, .inl (tq.1, 100, .inl tx)), (x0, .inr (7, [.ref xl, .ref xh, .ref xt, .ref xp, .ref xo, .ref xu, .ref xw])), (xl, .inr (1, [.ref xlc])), (xlc, .inl (tq.1, 1473, .inl c)), (xu, .inr (5, [.ref xus])), (xus, .inl (tq.1, 6, .inl uf2160))] := hD
              subst hw160
              refine r_top (show (etR s (nI (meet s (lf s b_) (hE s))) (nI 7)) = (nI 1) from (et_ (by omega) (by omega) (by omega)).trans (et7 hq2)) ?_
              refine lv_iconst (v := (nI 1)) hx hb dL_branches_163 (by decide) ?_
              refine r_icmp_ne (tgt := 212) hx hb (nI_tI (by omega)) (nI_tI (by omega)) dL_branches_164 (by decide) (fun c164 => False.elim (by omega)) (fun c164 => ?_)
              refine lv_iload hx hb dL_branches_167 (lv_at hl 4 rfl) ?_
              refine lv_iconst (v := (nI 1)) hx hb dL_branches_169 (by decide) ?_
              refine r_icmp_ne (tgt := 177) hx hb (nI_tI (by omega)) (nI_tI (by omega)) dL_branches_170 (by decide) (fun c170 => ?_) (fun c170 => False.elim (by omega))
              refine lv_iconst (v := (nI 0)) hx hb dL_branches_177 (by decide) ?_
              refine lv_iload hx hb dL_branches_178 (lv_at hl 4 rfl) ?_
              refine lv_iconst (v := (nI 2)) hx hb dL_branches_180 (by decide) ?_
              refine r_icmp_ge (tgt := 204) hx hb (nI_tI (by omega)) (nI_tI (by omega)) dL_branches_181 (by decide) (fun c181 => ?_) (fun c181 => False.elim (by omega))
              refine lv_iconst (v := (nI 0)) hx hb dL_branches_204 (by decide) ?_
              refine r_icmp_ne (tgt := 212) hx hb (nI_tI (by omega)) (nI_tI (by omega)) dL_branches_205 (by decide) (fun c205 => False.elim (by omega)) (fun c205 => ?_)
              refine lv_iconst (v := (nI 1)) hx hb dL_branches_208 (by decide) ?_
              refine lv_goto (tgt := 213) hx hb dL_branches_209 (by decide) ?_
              refine lv_istore_n (lv' := [(3, .int (nI 1)), (8, .int (nI (brE s b_ 0))), (2, .int (nI (cntF (loudB s) (b_ + 1)))), (1, .int (nI (cntF (waitB s) (b_ + 1)))), (7, .int (nI (meet s (lf s b_) (hE s)))), (6, .int (nI 3)), (5, .int (nI (lf s b_))), (0, .ref x0), (4, .int (nI b_))]) hx hb dL_branches_213 rfl hl (by decide) rfl (fun ls hl => ?_)
              refine lv_iinc (v := (nI (b_ + 1))) (lv' := [(4, .int (nI (b_ + 1))), (3, .int (nI 1)), (8, .int (nI (brE s b_ 0))), (2, .int (nI (cntF (loudB s) (b_ + 1)))), (1, .int (nI (cntF (waitB s) (b_ + 1)))), (7, .int (nI (meet s (lf s b_) (hE s)))), (6, .int (nI 3)), (5, .int (nI (lf s b_))), (0, .ref x0)]) hx hb dL_branches_214 hl (k := 8) rfl (nI_add _ _) (by decide) rfl (fun ls hl => ?_)
              refine lv_goto (tgt := 9) hx hb dL_branches_217 (by decide) ?_
              exact ih9 (b_ + 1) uf2160 H locs ls (by omega) (by omega) (hP.sub [4, 5, 6, 0, 1, 2, 3, 7, 8] rfl) (hD.sub [4, 5, 6, 0, 1, 2, 3, 7, 8] (by decide) rfl) hS (lv_sub hl [8, 4, 3, 1, 0] rfl)
  exact loop9 _ 0 uf H locs ls (by omega) (Nat.lt_succ_self _) (hP.sub [0, 1, 2, 3, 4, 5, 6, 7, 8] rfl) (hD.sub [0, 1, 2, 3, 4, 5, 6, 7, 8] (by decide) rfl) hS (lv_sub hl [4, 3, 2, 1, 0] rfl)
