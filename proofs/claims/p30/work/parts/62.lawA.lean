theorem hdL_cell : yL_cell.cls = RL ∧ yL_cell.cls ≠ "java/lang/invoke/MethodHandle" ∧ yL_cell.cls ≠ "java/lang/invoke/VarHandle" ∧ (parseMethodDescriptor yL_cell.desc).map (fun d => d.parameters.length) = some 2 := by decide +kernel
set_option maxHeartbeats 4000000 in
set_option maxRecDepth 100000 in
theorem kL_cell (ln : Launch) (dg : va_G) (tq : ClassId × ClassId) (b9 L9 : Nat) (xs : Row) (hL9 : L9 ≤ 260) (k : Nat) (hk : k < 1000) : MRX ln yL_cell wsL_cell (rmm 0 0) dg tq [.ref b9, .int (nI k)] b9 L9 xs (fun r => ∃ y : Nat, y < 2147483648 ∧ r = nI y) := by
  refine MRX.enter cL_cell 2 .int (by decide) rfl rfl (Nat.le_of_ble_eq_true rfl) ?_
  intro pP eE sS mM aA bB mT cC QQ AA hA hAT hX hbl hbA hret H locs hP hS ls hl
  obtain ⟨hx, hb, hml, hown, hts, hK, hN⟩ := hAT
  have hown : sS.vm.findClass RL = some mM.cls := hown
  have hl : lv_has ls 2 [(0, .ref b9), (1, .int (nI k))] := hl
  have k7 := hts (.constant RL 7 (1103515245)) (List.mem_of_getElem? (i := 1) rfl)
  have k8 := hts (.constant RL 8 (2147483647)) (List.mem_of_getElem? (i := 2) rfl)
  refine lv_iload_n hx hb dL_cell_0 rfl (lv_at hl 1 rfl) ?_
  refine lv_aload_n hx hb dL_cell_1 rfl (lv_at hl 0 rfl) ?_
  refine va_slen hx hb hX hbl hbA hS dL_cell_2 ?_
  refine r_top (show Int32.ofNat L9 = nI L9 from rfl) ?_
  refine r_icmp_ge (tgt := 12) hx hb (nI_tI (by omega)) (nI_tI (by omega)) dL_cell_3 (by decide) (fun c3 => ?_) (fun c3 => ?_)
  · skip
    refine lv_ldc hx hb hown k7 dL_cell_12 ?_
    refine lv_iload_n hx hb dL_cell_14 rfl (lv_at hl 1 rfl) ?_
    refine lv_bipush (v := (nI 23)) hx hb dL_cell_15 (by decide) ?_
    refine r_iadd_n hx hb dL_cell_17 ?_
    refine lv_imul hx hb dL_cell_18 ?_
    refine lv_ldc hx hb hown k8 dL_cell_19 ?_
    refine lv_iand hx hb dL_cell_21 ?_
    exact hret (((1103515245) * (nI (k + 23))) &&& (2147483647)) H locs _ ls (and31x _) rfl hS dL_cell_22
  · skip
    refine lv_aload_n hx hb dL_cell_6 rfl (lv_at hl 0 rfl) ?_
    refine lv_iload_n hx hb dL_cell_7 rfl (lv_at hl 1 rfl) ?_
    refine va_sld hx hb hX hbl hbA hS (vp_in_nI (n := k) (by omega) (by omega)) dL_cell_8 ?_
    refine r_top (show xs (nI k).toNatClampNeg = xs k from congrArg xs (nI_clamp (by omega))) ?_
    refine lv_goto (tgt := 19) hx hb dL_cell_9 (by decide) ?_
    refine lv_ldc hx hb hown k8 dL_cell_19 ?_
    refine lv_iand hx hb dL_cell_21 ?_
    exact hret ((xs k) &&& (2147483647)) H locs _ ls (and31x _) rfl hS dL_cell_22
theorem hdL_deposited : yL_deposited.cls = RL ∧ yL_deposited.cls ≠ "java/lang/invoke/MethodHandle" ∧ yL_deposited.cls ≠ "java/lang/invoke/VarHandle" ∧ (parseMethodDescriptor yL_deposited.desc).map (fun d => d.parameters.length) = some 2 := by decide +kernel
set_option maxHeartbeats 4000000 in
set_option maxRecDepth 100000 in
theorem kL_deposited (ln : Launch) (dg : va_G) (tq : ClassId × ClassId) (x0 xl xh xt xp xo xu xw : Nat)(xlc : Nat) (c : Row) (s : Row) (hF : FS s c)(xus : Nat) (uf : Row) (e : Nat) (he : e < nE s) : MW ln yL_deposited wsL_deposited (rmm 5 113) dg tq [.ref x0, .int (nI e)] [(x0, .inr (7, [.ref xl, .ref xh, .ref xt, .ref xp, .ref xo, .ref xu, .ref xw])), (xl, .inr (1, [.ref xlc])), (xlc, .inl (tq.1, 1473, .inl c)), (xu, .inr (5, [.ref xus])), (xus, .inl (tq.1, 6, .inl uf))] (fun (r : Int32) (u : Row) => r = (iI (sumB s e))) (fun u => [(x0, .inr (7, [.ref xl, .ref xh, .ref xt, .ref xp, .ref xo, .ref xu, .ref xw])), (xl, .inr (1, [.ref xlc])), (xlc, .inl (tq.1, 1473, .inl c)), (xu, .inr (5, [.ref xus])), (xus, .inl (tq.1, 6, .inl u))]) := by
  refine MW.enter cL_deposited 4 .int (by decide) rfl rfl (Nat.le_of_ble_eq_true rfl) ?_
  intro pP eE sS mM aA bB mT cC QQ AA hA hAT hret H locs hP hD hS ls hl
  obtain ⟨hx, hb, hml, hown, hts, hK, hN⟩ := hAT
  have hown : sS.vm.findClass RL = some mM.cls := hown
  have hl : lv_has ls 4 [(0, .ref x0), (1, .int (nI e))] := hl
  obtain ⟨hR, hW, hs0, hs1⟩ := id hF
  have hn60 := hW.n60
  have hb10 := hW.b10
  have hs8 := hW.s8
  have hhn := hW.hn
  have hcl := cntF_le (loudB s) (nB s)
  refine lv_iconst (v := (nI 0)) hx hb dL_deposited_0 (by decide) ?_
  refine lv_istore_n (lv' := [(2, .int (nI 0)), (0, .ref x0), (1, .int (nI e))]) hx hb dL_deposited_1 rfl hl (by decide) rfl (fun ls hl => ?_)
  have hl : lv_has ls 4 [(2, .int (iI 0)), (0, .ref x0), (1, .int (nI e))] := by have el : (nI 0) = (iI 0) := (nI_iI 0); rw [← el]; exact hl
  refine lv_iload_n hx hb dL_deposited_2 rfl (lv_at hl 2 rfl) ?_
  refine lv_istore_n (lv' := [(3, .int (nI e)), (2, .int (iI 0)), (0, .ref x0), (1, .int (nI e))]) hx hb dL_deposited_3 rfl hl (by decide) rfl (fun ls hl => ?_)
  have loop4 : ∀ (fu : Nat) (at_ : Nat) (q_ : Int) (f_ : Row) (H : Heap) (locs : List Loc) (ls : Array Slot), (q_ + sumB s at_ = sumB s e ∧ at_ < nE s) → at_ < fu → va_P dg vwCl [(x0, .inr (7, [.ref xl, .ref xh, .ref xt, .ref xp, .ref xo, .ref xu, .ref xw])), (xl, .inr (1, [.ref xlc])), (xlc, .inl (tq.1, 1473, .inl c)), (xu, .inr (5, [.ref xus])), (xus, .inl (tq.1, 6, .inl f_))] H → va_D AA [(x0, .inr (7, [.ref xl, .ref xh, .ref xt, .ref xp, .ref xo, .ref xu, .ref xw])), (xl, .inr (1, [.ref xlc])), (xlc, .inl (tq.1, 1473, .inl c)), (xu, .inr (5, [.ref xus])), (xus, .inl (tq.1, 6, .inl f_))] → va_S AA sS.heap H locs → lv_has ls 4 [(0, .ref x0), (2, .int (iI q_)), (3, .int (nI at_))] → W pP ln eE (rmm 5 113) sS mM aA bB mT cC H locs 0 0 QQ (F0 mM 4 ls []) := by
    intro fu
    induction fu with
    | zero => intro at_ q_ f_ H locs ls _ hm; exact absurd hm (Nat.not_lt_zero _)
    | succ fu ih4 =>
      intro at_ q_ f_ H locs ls hinv hm hP hD hS hl
      obtain ⟨hi1, hi2⟩ := hinv
      refine lv_iload_n hx hb dL_deposited_4 rfl (lv_at hl 2 rfl) ?_
      refine r_if_le (tgt := 41) hx hb (nI_tI (by omega)) dL_deposited_5 (by decide) (fun c5 => ?_) (fun c5 => ?_)
      · skip
        refine lv_iload_n hx hb dL_deposited_41 rfl (lv_at hl 1 rfl) ?_
        exact hret (iI q_) (f_) H locs _ ls (by have e0 : at_ = 0 := (by omega); rw [e0, sumB_0] at hi1; congr 1; omega) rfl (hP.sub [0, 1, 2, 3, 4] rfl) (hD.sub [0, 1, 2, 3, 4] (by decide) rfl) hS dL_deposited_42
      · skip
        refine lv_iload_n hx hb dL_deposited_8 rfl (lv_at hl 1 rfl) ?_
        refine lv_aload_n hx hb dL_deposited_9 rfl (lv_at hl 0 rfl) ?_
        refine lv_iload_n hx hb dL_deposited_10 rfl (lv_at hl 2 rfl) ?_
        refine lv_iconst (v := (nI 0)) hx hb dL_deposited_11 (by decide) ?_
        refine call_w (wr := []) (va_runV (As := [.int (nI at_), .int (nI 0)]) (rest := [.int (iI q_)]) ⟨hx, hb, hml, hown, hts⟩ (kX7_entry ln dg tq (x0 := x0) (xl := xl) (xh := xh) (xt := xt) (xp := xp) (xo := xo) (xu := xu) (xw := xw) (xlc := xlc) (c := c) (s := s) (hF := hF) (xus := xus) (uf := f_) (x := (nI at_)) (w := (nI 0)) H.size) (cwV 2 hts gL_deposited_X7_entry rfl rfl rfl hdX7_entry ⟨Nat.le_of_ble_eq_true rfl, Nat.le_of_ble_eq_true rfl⟩) (preVB hK hN hP hD [0, 1, 2, 3, 4] rfl rfl rfl 0 rfl rfl [.int (nI at_), .int (nI 0)]) rfl rfl hl.1 rfl (lv_room (Nat.le_of_ble_eq_true rfl)) dL_deposited_12 ⟨Nat.le_refl _, Nat.le_refl _⟩) hP hD hS hA [0, 1, 2, 3, 4] [] rfl rfl (by decide) (by decide) (fun r12 u12 H locs hw12 hP hD hS => ?_)
        obtain ⟨uf212, rfl⟩ : ∃ z, z = u12 := ⟨_, rfl⟩
        have hP : va_P dg vwCl [(x0, .inr (7, [.ref xl, .ref xh, .ref xt, .ref xp, .ref xo, .ref xu, .ref xw])), (xl, .inr (1, [.ref xlc])), (xlc, .inl (tq.1, 1473, .inl c)), (xu, .inr (5, [.ref xus])), (xus, .inl (tq.1, 6, .inl uf212))] H := hP
        have hD : va_D AA [(x0, .inr (7, [.ref xl, .ref xh, .ref xt, .ref xp, .ref xo, .ref xu, .ref xw])), (xl, .inr (1, [.ref xlc])), (xlc, .inl (tq.1, 1473, .inl c)), (xu, .inr (5, [.ref xus])), (xus, .inl (tq.1, 6, .inl uf212))] := hD
        subst hw12
        refine r_top (show (etR s (nI at_) (nI 0)) = (me s at_ 1) from (et_ (by omega) (by omega) (by omega))) ?_
        refine lv_iconst (v := (nI 1)) hx hb dL_deposited_15 (by decide) ?_
        refine r_icmp_ne (tgt := 28) hx hb rfl (nI_tI (by omega)) dL_deposited_16 (by decide) (fun c16 => ?_) (fun c16 => ?_)
        · skip
          refine lv_iconst (v := (nI 0)) hx hb dL_deposited_28 (by decide) ?_
          refine r_iadd_z hx hb rfl (nI_iI _) dL_deposited_29 ?_
          refine lv_istore_n (lv' := [(2, .int (iI (q_ + ((0 : Nat) : Int)))), (0, .ref x0), (3, .int (nI at_))]) hx hb dL_deposited_30 rfl hl (by decide) rfl (fun ls hl => ?_)
          refine lv_aload_n hx hb dL_deposited_31 rfl (lv_at hl 1 rfl) ?_
          refine lv_iload_n hx hb dL_deposited_32 rfl (lv_at hl 2 rfl) ?_
          refine lv_iconst (v := (nI 4)) hx hb dL_deposited_33 (by decide) ?_
          refine call_w (wr := []) (va_runV (As := [.int (nI at_), .int (nI 4)]) (rest := []) ⟨hx, hb, hml, hown, hts⟩ (kX7_entry ln dg tq (x0 := x0) (xl := xl) (xh := xh) (xt := xt) (xp := xp) (xo := xo) (xu := xu) (xw := xw) (xlc := xlc) (c := c) (s := s) (hF := hF) (xus := xus) (uf := uf212) (x := (nI at_)) (w := (nI 4)) H.size) (cwV 2 hts gL_deposited_X7_entry rfl rfl rfl hdX7_entry ⟨Nat.le_of_ble_eq_true rfl, Nat.le_of_ble_eq_true rfl⟩) (preVB hK hN hP hD [0, 1, 2, 3, 4] rfl rfl rfl 0 rfl rfl [.int (nI at_), .int (nI 4)]) rfl rfl hl.1 rfl (lv_room (Nat.le_of_ble_eq_true rfl)) dL_deposited_34 ⟨Nat.le_refl _, Nat.le_refl _⟩) hP hD hS hA [0, 1, 2, 3, 4] [] rfl rfl (by decide) (by decide) (fun r34 u34 H locs hw34 hP hD hS => ?_)
          obtain ⟨uf234, rfl⟩ : ∃ z, z = u34 := ⟨_, rfl⟩
          have hP : va_P dg vwCl [(x0, .inr (7, [.ref xl, .ref xh, .ref xt, .ref xp, .ref xo, .ref xu, .ref xw])), (xl, .inr (1, [.ref xlc])), (xlc, .inl (tq.1, 1473, .inl c)), (xu, .inr (5, [.ref xus])), (xus, .inl (tq.1, 6, .inl uf234))] H := hP
          have hD : va_D AA [(x0, .inr (7, [.ref xl, .ref xh, .ref xt, .ref xp, .ref xo, .ref xu, .ref xw])), (xl, .inr (1, [.ref xlc])), (xlc, .inl (tq.1, 1473, .inl c)), (xu, .inr (5, [.ref xus])), (xus, .inl (tq.1, 6, .inl uf234))] := hD
          subst hw34
          refine r_top (show (etR s (nI at_) (nI 4)) = (nI (pa s at_)) from (et_ (by omega) (by omega) (by omega)).trans (hW.p (by omega) (by omega))) ?_
          refine lv_istore_n (lv' := [(3, .int (nI (pa s at_))), (2, .int (iI (q_ + ((0 : Nat) : Int)))), (0, .ref x0)]) hx hb dL_deposited_37 rfl hl (by decide) rfl (fun ls hl => ?_)
          refine lv_goto (tgt := 4) hx hb dL_deposited_38 (by decide) ?_
          exact ih4 (pa s at_) (q_ + ((0 : Nat) : Int)) uf234 H locs ls (⟨by have hss : sumB s at_ = sumB s (pa s at_) + 0 := (by rw [sumB_s hW (e := at_) (by omega) (by omega), if_neg (show ¬ (me s at_ 1).toInt = 1 from c16)]); omega, by have hpl := hW.pl (e := at_) (by omega) (by omega); omega⟩) (by have hpl := hW.pl (e := at_) (by omega) (by omega); omega) (hP.sub [0, 1, 2, 3, 4] rfl) (hD.sub [0, 1, 2, 3, 4] (by decide) rfl) hS (lv_sub hl [2, 1, 0] rfl)
        · skip
          refine lv_aload_n hx hb dL_deposited_19 rfl (lv_at hl 0 rfl) ?_
          refine lv_iload_n hx hb dL_deposited_20 rfl (lv_at hl 2 rfl) ?_
          refine lv_iconst (v := (nI 3)) hx hb dL_deposited_21 (by decide) ?_
          refine call_w (wr := []) (va_runV (As := [.int (nI at_), .int (nI 3)]) (rest := [.int (iI q_)]) ⟨hx, hb, hml, hown, hts⟩ (kX7_entry ln dg tq (x0 := x0) (xl := xl) (xh := xh) (xt := xt) (xp := xp) (xo := xo) (xu := xu) (xw := xw) (xlc := xlc) (c := c) (s := s) (hF := hF) (xus := xus) (uf := uf212) (x := (nI at_)) (w := (nI 3)) H.size) (cwV 2 hts gL_deposited_X7_entry rfl rfl rfl hdX7_entry ⟨Nat.le_of_ble_eq_true rfl, Nat.le_of_ble_eq_true rfl⟩) (preVB hK hN hP hD [0, 1, 2, 3, 4] rfl rfl rfl 0 rfl rfl [.int (nI at_), .int (nI 3)]) rfl rfl hl.1 rfl (lv_room (Nat.le_of_ble_eq_true rfl)) dL_deposited_22 ⟨Nat.le_refl _, Nat.le_refl _⟩) hP hD hS hA [0, 1, 2, 3, 4] [] rfl rfl (by decide) (by decide) (fun r22 u22 H locs hw22 hP hD hS => ?_)
          obtain ⟨uf222, rfl⟩ : ∃ z, z = u22 := ⟨_, rfl⟩
          have hP : va_P dg vwCl [(x0, .inr (7, [.ref xl, .ref xh, .ref xt, .ref xp, .ref xo, .ref xu, .ref xw])), (xl, .inr (1, [.ref xlc])), (xlc, .inl (tq.1, 1473, .inl c)), (xu, .inr (5, [.ref xus])), (xus, .inl (tq.1, 6, .inl uf222))] H := hP
          have hD : va_D AA [(x0, .inr (7, [.ref xl, .ref xh, .ref xt, .ref xp, .ref xo, .ref xu, .ref xw])), (xl, .inr (1, [.ref xlc])), (xlc, .inl (tq.1, 1473, .inl c)), (xu, .inr (5, [.ref xus])), (xus, .inl (tq.1, 6, .inl uf222))] := hD
          subst hw22
          refine r_top (show (etR s (nI at_) (nI 3)) = (iI (am s at_)) from (et_ (by omega) (by omega) (by omega)).trans (am_iI s at_)) ?_
          refine lv_goto (tgt := 29) hx hb dL_deposited_25 (by decide) ?_
          refine r_iadd_z hx hb rfl rfl dL_deposited_29 ?_
          refine lv_istore_n (lv' := [(2, .int (iI (q_ + (am s at_)))), (0, .ref x0), (3, .int (nI at_))]) hx hb dL_deposited_30 rfl hl (by decide) rfl (fun ls hl => ?_)
          refine lv_aload_n hx hb dL_deposited_31 rfl (lv_at hl 1 rfl) ?_
          refine lv_iload_n hx hb dL_deposited_32 rfl (lv_at hl 2 rfl) ?_
          refine lv_iconst (v := (nI 4)) hx hb dL_deposited_33 (by decide) ?_
          refine call_w (wr := []) (va_runV (As := [.int (nI at_), .int (nI 4)]) (rest := []) ⟨hx, hb, hml, hown, hts⟩ (kX7_entry ln dg tq (x0 := x0) (xl := xl) (xh := xh) (xt := xt) (xp := xp) (xo := xo) (xu := xu) (xw := xw) (xlc := xlc) (c := c) (s := s) (hF := hF) (xus := xus) (uf := uf222) (x := (nI at_)) (w := (nI 4)) H.size) (cwV 2 hts gL_deposited_X7_entry rfl rfl rfl hdX7_entry ⟨Nat.le_of_ble_eq_true rfl, Nat.le_of_ble_eq_true rfl⟩) (preVB hK hN hP hD [0, 1, 2, 3, 4] rfl rfl rfl 0 rfl rfl [.int (nI at_), .int (nI 4)]) rfl rfl hl.1 rfl (lv_room (Nat.le_of_ble_eq_true rfl)) dL_deposited_34 ⟨Nat.le_refl _, Nat.le_refl _⟩) hP hD hS hA [0, 1, 2, 3, 4] [] rfl rfl (by decide) (by decide) (fun r34 u34 H locs hw34 hP hD hS => ?_)
          obtain ⟨uf234, rfl⟩ : ∃ z, z = u34 := ⟨_, rfl⟩
          have hP : va_P dg vwCl [(x0, .inr (7, [.ref xl, .ref xh, .ref xt, .ref xp, .ref xo, .ref xu, .ref xw])), (xl, .inr (1, [.ref xlc])), (xlc, .inl (tq.1, 1473, .inl c)), (xu, .inr (5, [.ref xus])), (xus, .inl (tq.1, 6, .inl uf234))] H := hP
          have hD : va_D AA [(x0, .inr (7, [.ref xl, .ref xh, .ref xt, .ref xp, .ref xo, .ref xu, .ref xw])), (xl, .inr (1, [.ref xlc])), (xlc, .inl (tq.1, 1473, .inl c)), (xu, .inr (5, [.ref xus])), (xus, .inl (tq.1, 6, .inl uf234))] := hD
          subst hw34
          refine r_top (show (etR s (nI at_) (nI 4)) = (nI (pa s at_)) from (et_ (by omega) (by omega) (by omega)).trans (hW.p (by omega) (by omega))) ?_
          refine lv_istore_n (lv' := [(3, .int (nI (pa s at_))), (2, .int (iI (q_ + (am s at_)))), (0, .ref x0)]) hx hb dL_deposited_37 rfl hl (by decide) rfl (fun ls hl => ?_)
          refine lv_goto (tgt := 4) hx hb dL_deposited_38 (by decide) ?_
          exact ih4 (pa s at_) (q_ + (am s at_)) uf234 H locs ls (⟨by have hss : sumB s at_ = sumB s (pa s at_) + am s at_ := (by rw [sumB_s hW (e := at_) (by omega) (by omega), if_pos (show (me s at_ 1).toInt = 1 from c16)]); omega, by have hpl := hW.pl (e := at_) (by omega) (by omega); omega⟩) (by have hpl := hW.pl (e := at_) (by omega) (by omega); omega) (hP.sub [0, 1, 2, 3, 4] rfl) (hD.sub [0, 1, 2, 3, 4] (by decide) rfl) hS (lv_sub hl [2, 1, 0] rfl)
  exact loop4 _ e 0 uf H locs ls (⟨by omega, he⟩) (Nat.lt_succ_self _) (hP.sub [0, 1, 2, 3, 4] rfl) (hD.sub [0, 1, 2, 3, 4] (by decide) rfl) hS (lv_sub hl [2, 1, 0] rfl)
