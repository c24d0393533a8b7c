set_option maxHeartbeats 4000000 in
set_option maxRecDepth 100000 in
theorem kX3_at__r (ln : Launch) (dg : va_G) (tq : ClassId × ClassId) (w0 w1 : Nat) (len : Nat) (pc : Row) (x : Int32) (hlen : len ≤ 60) : MR ln yX3_at wsX3_at (rmm 0 0) dg tq [.ref w0, .int x] [(w0, .inr (3, [.ref w1, .int (nI len)])), (w1, .inl (tq.1, 60, .inl pc))] (fun r => r = (if hasN x len = true then pc x.toNatClampNeg else -100009)) := by
  refine MR.enter cX3_at 2 .int (by decide) rfl rfl (Nat.le_of_ble_eq_true rfl) ?_
  intro pP eE sS mM aA bB mT cC QQ AA hA hAT hret H locs hP hS ls hl
  obtain ⟨hx, hb, hml, hown, hts, hK, hN⟩ := hAT
  have hown : sS.vm.findClass RX3 = some mM.cls := hown
  have hl : lv_has ls 2 [(0, .ref w0), (1, .int x)] := hl
  have in3 : ∀ w ∈ u_ws RX3 TX3 2, w ∈ wsX3_at := (fun _ h9 => List.mem_cons_of_mem _ (List.mem_append_right _ h9))
  have k40 := hts (.constant RX3 40 (-100009)) (List.mem_of_getElem? (i := 3) rfl)
  have f15 := hts (.fieldLink RX3 15 "OrphanChain$Path" "length" "I") (List.mem_of_getElem? (i := 1) rfl)
  have f9 := hts (.fieldLink RX3 9 "OrphanChain$Path" "entries" "[I") (List.mem_of_getElem? (i := 2) rfl)
  refine lv_iload_n hx hb dX3_at_0 rfl (lv_at hl 1 rfl) ?_
  refine r_if_lt (tgt := 30) hx hb rfl dX3_at_1 (by decide) (fun c1 => ?_) (fun c1 => ?_)
  · skip
    refine lv_ldc hx hb hown k40 dX3_at_30 ?_
    exact hret (-100009) H locs _ ls (by first | (rw [hasN_n (by omega) (by omega), if_pos rfl, nI_clamp (by omega)]; done) | (rw [if_neg (fun z => by have z := of_decide_eq_true z; omega)])) rfl hS dX3_at_32
  · skip
    refine lv_iload_n hx hb dX3_at_4 rfl (lv_at hl 1 rfl) ?_
    refine lv_aload_n hx hb dX3_at_5 rfl (lv_at hl 0 rfl) ?_
    refine va_get (D := dg) (ci := 3) (v := .int (nI len)) (C := RX3) (T := TX3) (N := 2) hx hb hts in3 hown hK hP 0 rfl rfl 1 (by decide) f15 (fun _ h9 => h9) rfl dX3_at_6 ?_
    refine r_icmp_ge (tgt := 30) hx hb rfl (nI_tI (by omega)) dX3_at_9 (by decide) (fun c9 => ?_) (fun c9 => ?_)
    · skip
      refine lv_ldc hx hb hown k40 dX3_at_30 ?_
      exact hret (-100009) H locs _ ls (by first | (rw [hasN_n (by omega) (by omega), if_pos rfl, nI_clamp (by omega)]; done) | (rw [if_neg (fun z => by have z := of_decide_eq_true z; omega)])) rfl hS dX3_at_32
    · skip
      obtain ⟨xk, hxk, rfl⟩ := tI_natlt (by omega) c9
      refine lv_iload_n hx hb dX3_at_12 rfl (lv_at hl 1 rfl) ?_
      refine lv_aload_n hx hb dX3_at_13 rfl (lv_at hl 0 rfl) ?_
      refine va_get (D := dg) (ci := 3) (v := .ref w1) (C := RX3) (T := TX3) (N := 2) hx hb hts in3 hown hK hP 0 rfl rfl 0 (by decide) f9 (fun _ h9 => h9) rfl dX3_at_14 ?_
      refine va_alen (v := (nI 60)) hx hb hK hP 1 0 rfl rfl rfl dX3_at_17 ?_
      refine r_icmp_ge (tgt := 30) hx hb (nI_tI (by omega)) (nI_tI (by omega)) dX3_at_18 (by decide) (fun c18 => False.elim (by omega)) (fun c18 => ?_)
      refine lv_aload_n hx hb dX3_at_21 rfl (lv_at hl 0 rfl) ?_
      refine va_get (D := dg) (ci := 3) (v := .ref w1) (C := RX3) (T := TX3) (N := 2) hx hb hts in3 hown hK hP 0 rfl rfl 0 (by decide) f9 (fun _ h9 => h9) rfl dX3_at_22 ?_
      refine lv_iload_n hx hb dX3_at_25 rfl (lv_at hl 1 rfl) ?_
      refine r_iald_n hx hb hK hP 1 rfl (k := xk) (by omega) (by omega) dX3_at_26 ?_
      refine lv_goto (tgt := 32) hx hb dX3_at_27 (by decide) ?_
      exact hret (pc xk) H locs _ ls (by first | (rw [hasN_n (by omega) (by omega), if_pos rfl, nI_clamp (by omega)]; done) | (rw [if_neg (fun z => by have z := of_decide_eq_true z; omega)])) rfl hS dX3_at_32
theorem hdX3_trace : yX3_trace.cls = RX3 ∧ yX3_trace.cls ≠ "java/lang/invoke/MethodHandle" ∧ yX3_trace.cls ≠ "java/lang/invoke/VarHandle" ∧ (parseMethodDescriptor yX3_trace.desc).map (fun d => d.parameters.length) = some 3 := by decide +kernel
set_option maxHeartbeats 4000000 in
set_option maxRecDepth 100000 in
theorem kX3_trace (ln : Launch) (dg : va_G) (tq : ClassId × ClassId) (w0 w1 : Nat) (len : Int32) (pc : Row) (h0 h1 : Nat) (c : Row) (s : Row) (hR : XR s c) (hW : WF s) (leaf cnt : Nat) (hl0 : leaf < nE s) (hc0 : cnt ≤ dep s leaf) : MV ln yX3_trace wsX3_trace (rmm 1 22) dg tq [.ref w0, .ref h0, .int (nI leaf), .int (nI cnt)] [(w0, .inr (3, [.ref w1, .int len])), (w1, .inl (tq.1, 60, .inl pc)), (h0, .inr (1, [.ref h1])), (h1, .inl (tq.1, 1473, .inl c))] (fun (u : Row) => ∀ k, k < cnt → u k = nI (up s leaf (cnt - 1 - k))) (fun u => [(w0, .inr (3, [.ref w1, .int (nI cnt)])), (w1, .inl (tq.1, 60, .inl u)), (h0, .inr (1, [.ref h1])), (h1, .inl (tq.1, 1473, .inl c))]) := by
  refine MV.enter cX3_trace 6 (by decide) rfl rfl (Nat.le_of_ble_eq_true rfl) ?_
  intro pP eE sS mM aA bB mT cC QQ AA hA hAT hret H locs hP hD hS ls hl
  obtain ⟨hx, hb, hml, hown, hts, hK, hN⟩ := hAT
  have hown : sS.vm.findClass RX3 = some mM.cls := hown
  have hl : lv_has ls 6 [(0, .ref w0), (1, .ref h0), (2, .int (nI leaf)), (3, .int (nI cnt))] := hl
  have in3 : ∀ w ∈ u_ws RX3 TX3 2, w ∈ wsX3_trace := (fun _ h9 => List.mem_cons_of_mem _ (List.mem_append_left _ (List.mem_append_right _ h9)))
  have f9 := hts (.fieldLink RX3 9 "OrphanChain$Path" "entries" "[I") (List.mem_of_getElem? (i := 1) rfl)
  have k19 := hts (.methodLink RX3 19 Lib.Math.min.name) (List.mem_of_getElem? (i := 2) rfl)
  have msmin := hts (.static Lib.Math.min.name) (List.mem_of_getElem? (i := 3) rfl)
  have mi := hts (.initialized "java/lang/Math") (List.mem_of_getElem? (i := 4) rfl)
  have mcmin := hts (.code Lib.Math.min.name Lib.Math.min.code 2 (some .int)) (List.mem_of_getElem? (i := 5) rfl)
  have k25 := hts (.methodLink RX3 25 Lib.Math.max.name) (List.mem_of_getElem? (i := 6) rfl)
  have msmax := hts (.static Lib.Math.max.name) (List.mem_of_getElem? (i := 7) rfl)
  have mcmax := hts (.code Lib.Math.max.name Lib.Math.max.code 2 (some .int)) (List.mem_of_getElem? (i := 8) rfl)
  have f15 := hts (.fieldLink RX3 15 "OrphanChain$Path" "length" "I") (List.mem_of_getElem? (i := 9) rfl)
  have hn60 := hW.n60
  have hb10 := hW.b10
  have hs8 := hW.s8
  have hdl := dep_le hW leaf hl0
  refine lv_aload_n hx hb dX3_trace_0 rfl (lv_at hl 0 rfl) ?_
  refine lv_iconst (v := (nI 0)) hx hb dX3_trace_1 (by decide) ?_
  refine lv_iload_n hx hb dX3_trace_2 rfl (lv_at hl 3 rfl) ?_
  refine lv_aload_n hx hb dX3_trace_3 rfl (lv_at hl 0 rfl) ?_
  refine va_get (D := dg) (ci := 3) (v := .ref w1) (C := RX3) (T := TX3) (N := 2) hx hb hts in3 hown hK hP 0 rfl rfl 0 (by decide) f9 (fun _ h9 => h9) rfl dX3_trace_4 ?_
  refine va_alen (v := (nI 60)) hx hb hK hP 1 0 rfl rfl rfl dX3_trace_7 ?_
  refine va_mmin hx hb (hml.trans hl.1.symm) hown k19 msmin mi mcmin (Nat.le_of_ble_eq_true rfl) (Nat.le_of_ble_eq_true rfl) (Nat.le_refl _) (Nat.le_refl _) dX3_trace_8 ?_
  refine r_top (show (if (nI 60) < (nI cnt) then (nI 60) else (nI cnt)) = (nI cnt) from by rw [if_neg (nI_nlt (by omega) (by omega))]) ?_
  refine va_mmax hx hb (hml.trans hl.1.symm) hown k25 msmax mi mcmax (Nat.le_of_ble_eq_true rfl) (Nat.le_of_ble_eq_true rfl) (Nat.le_refl _) (Nat.le_refl _) dX3_trace_11 ?_
  refine r_top (show (if (nI 0) < (nI cnt) then (nI cnt) else (nI 0)) = (nI cnt) from max_0 (by omega)) ?_
  refine va_put (D := dg) (ci := 3) (v := .int (nI cnt)) (ty := .int) (C := RX3) (T := TX3) (N := 2) hx hb hts in3 tyX3 tyX3_ok nmX3 hown hK hP hD hS 0 rfl rfl 1 (by decide) f15 (fun _ h9 => h9) rfl (by decide +kernel) rfl rfl (Nat.le_of_ble_eq_true rfl) dX3_trace_14 (fun H locs hP hD hS => ?_)
  have hP : va_P dg vwCl [(w0, .inr (3, [.ref w1, .int (nI cnt)])), (w1, .inl (tq.1, 60, .inl pc)), (h0, .inr (1, [.ref h1])), (h1, .inl (tq.1, 1473, .inl c))] H := hP
  have hD : va_D AA [(w0, .inr (3, [.ref w1, .int (nI cnt)])), (w1, .inl (tq.1, 60, .inl pc)), (h0, .inr (1, [.ref h1])), (h1, .inl (tq.1, 1473, .inl c))] := hD
  refine lv_iload_n hx hb dX3_trace_17 rfl (lv_at hl 2 rfl) ?_
  refine lv_istore (lv' := [(4, .int (nI leaf)), (0, .ref w0), (1, .ref h0), (2, .int (nI leaf)), (3, .int (nI cnt))]) hx hb dX3_trace_18 hl (by decide) rfl (fun ls hl => ?_)
  refine lv_aload_n hx hb dX3_trace_20 rfl (lv_at hl 1 rfl) ?_
  refine va_get (D := dg) (ci := 3) (v := .int (nI cnt)) (C := RX3) (T := TX3) (N := 2) hx hb hts in3 hown hK hP 0 rfl rfl 1 (by decide) f15 (fun _ h9 => h9) rfl dX3_trace_21 ?_
  refine lv_iconst (v := (nI 1)) hx hb dX3_trace_24 (by decide) ?_
  refine r_isub_z hx hb (nI_iI _) (nI_iI _) dX3_trace_25 ?_
  refine lv_istore (lv' := [(5, .int (iI (((cnt : Nat) : Int) - ((1 : Nat) : Int)))), (4, .int (nI leaf)), (0, .ref w0), (1, .ref h0), (2, .int (nI leaf)), (3, .int (nI cnt))]) hx hb dX3_trace_26 hl (by decide) rfl (fun ls hl => ?_)
  have loop28 : ∀ (fu : Nat) (j_ : Nat) (f_ : Row) (x_ : Int32) (H : Heap) (locs : List Loc) (ls : Array Slot), (j_ ≤ cnt ∧ (∀ k, j_ ≤ k → k < cnt → f_ k = nI (up s leaf (cnt - 1 - k))) ∧ (0 < j_ → x_ = nI (up s leaf (cnt - j_)))) → j_ < fu → va_P dg vwCl [(w0, .inr (3, [.ref w1, .int (nI cnt)])), (w1, .inl (tq.1, 60, .inl f_)), (h0, .inr (1, [.ref h1])), (h1, .inl (tq.1, 1473, .inl c))] H → va_D AA [(w0, .inr (3, [.ref w1, .int (nI cnt)])), (w1, .inl (tq.1, 60, .inl f_)), (h0, .inr (1, [.ref h1])), (h1, .inl (tq.1, 1473, .inl c))] → va_S AA sS.heap H locs → lv_has ls 6 [(0, .ref w0), (1, .ref h0), (2, .int (nI leaf)), (5, .int (iI (((j_ : Nat) : Int) - 1))), (4, .int x_)] → W pP ln eE (rmm 1 22) sS mM aA bB mT cC H locs 0 0 QQ (F0 mM 28 ls []) := by
    intro fu
    induction fu with
    | zero => intro j_ f_ x_ H locs ls _ hm; exact absurd hm (Nat.not_lt_zero _)
    | succ fu ih28 =>
      intro j_ f_ x_ H locs ls hinv hm hP hD hS hl
      obtain ⟨hi1, hi2, hi3⟩ := hinv
      refine lv_iload hx hb dX3_trace_28 (lv_at hl 3 rfl) ?_
      refine r_if_lt (tgt := 57) hx hb (iI_toInt (by omega) (by omega)) dX3_trace_30 (by decide) (fun c30 => ?_) (fun c30 => ?_)
      · skip
        exact hret (f_) H locs _ ls (fun k h => hi2 k (by omega) h) (hP.sub [0, 1, 2, 3] rfl) (hD.sub [0, 1, 2, 3] (by decide) rfl) hS dX3_trace_57
      · skip
        refine lv_aload_n hx hb dX3_trace_33 rfl (lv_at hl 0 rfl) ?_
        refine va_get (D := dg) (ci := 3) (v := .ref w1) (C := RX3) (T := TX3) (N := 2) hx hb hts in3 hown hK hP 0 rfl rfl 0 (by decide) f9 (fun _ h9 => h9) rfl dX3_trace_34 ?_
        refine lv_iload hx hb dX3_trace_37 (lv_at hl 3 rfl) ?_
        refine r_top (show (iI (((j_ : Nat) : Int) - 1)) = (nI (j_ - 1)) from iI_n (by omega)) ?_
        refine lv_iload hx hb dX3_trace_39 (lv_at hl 4 rfl) ?_
        refine r_top (show x_ = (nI (up s leaf (cnt - j_))) from hi3 (by omega)) ?_
        refine r_iast_n hx hb hK hP hD hS 1 rfl (k := (j_ - 1)) (by omega) (by omega) dX3_trace_41 (fun H locs hP hD hS => ?_)
        have hP : va_P dg vwCl [(w0, .inr (3, [.ref w1, .int (nI cnt)])), (w1, .inl (tq.1, 60, .inl (upd f_ (j_ - 1) (nI (up s leaf (cnt - j_)))))), (h0, .inr (1, [.ref h1])), (h1, .inl (tq.1, 1473, .inl c))] H := hP
        have hD : va_D AA [(w0, .inr (3, [.ref w1, .int (nI cnt)])), (w1, .inl (tq.1, 60, .inl (upd f_ (j_ - 1) (nI (up s leaf (cnt - j_)))))), (h0, .inr (1, [.ref h1])), (h1, .inl (tq.1, 1473, .inl c))] := hD
        have hup := up_in hW (cnt - j_) leaf hl0 (by omega)
        refine lv_aload_n hx hb dX3_trace_42 rfl (lv_at hl 1 rfl) ?_
        refine lv_iload hx hb dX3_trace_43 (lv_at hl 4 rfl) ?_
        refine r_top (show x_ = (nI (up s leaf (cnt - j_))) from hi3 (by omega)) ?_
        refine lv_iconst (v := (nI 4)) hx hb dX3_trace_45 (by decide) ?_
        refine call_x (va_runV (As := [.int (nI (up s leaf (cnt - j_))), .int (nI 4)]) (rest := []) ⟨hx, hb, hml, hown, hts⟩ (kX1_ofEntry ln dg tq (h0 := h0) (h1 := h1) (c := c) (e := up s leaf (cnt - j_)) (f := 4) (he := (by omega)) (hf := (by omega)) H.size) (cwV 2 hts gX3_trace_X1_ofEntry rfl rfl rfl hdX1_ofEntry ⟨Nat.le_of_ble_eq_true rfl, Nat.le_of_ble_eq_true rfl⟩) (preVR hK hN hP [2, 3] rfl 2 rfl rfl [.int (nI (up s leaf (cnt - j_))), .int (nI 4)]) rfl rfl hl.1 rfl (lv_room (Nat.le_of_ble_eq_true rfl)) dX3_trace_46 ⟨Nat.le_refl _, Nat.le_refl _⟩) hP hS hA (fun H locs hP hS => ?_)
        refine lv_istore (lv' := [(4, .int (c (5 + (up s leaf (cnt - j_)) * 7 + 4))), (0, .ref w0), (1, .ref h0), (2, .int (nI leaf)), (5, .int (iI (((j_ : Nat) : Int) - 1)))]) hx hb dX3_trace_49 hl (by decide) rfl (fun ls hl => ?_)
        refine lv_iinc (v := (iI ((((j_ : Nat) : Int) - 1) + (-1)))) (lv' := [(5, .int (iI ((((j_ : Nat) : Int) - 1) + (-1)))), (4, .int (c (5 + (up s leaf (cnt - j_)) * 7 + 4))), (0, .ref w0), (1, .ref h0), (2, .int (nI leaf))]) hx hb dX3_trace_51 hl (k := 4) rfl (iI_add _ _) (by decide) rfl (fun ls hl => ?_)
        have hl : lv_has ls 6 [(5, .int (iI (((j_ - 1 : Nat) : Int) - 1))), (4, .int (c (5 + (up s leaf (cnt - j_)) * 7 + 4))), (0, .ref w0), (1, .ref h0), (2, .int (nI leaf))] := by have el : (iI ((((j_ : Nat) : Int) - 1) + (-1))) = (iI (((j_ - 1 : Nat) : Int) - 1)) := congrArg iI (by omega); rw [← el]; exact hl
        refine lv_goto (tgt := 28) hx hb dX3_trace_54 (by decide) ?_
        exact ih28 (j_ - 1) (upd f_ (j_ - 1) (nI (up s leaf (cnt - j_)))) (c (5 + (up s leaf (cnt - j_)) * 7 + 4)) H locs ls (⟨by omega, fun k h1 h2 => by by_cases e0 : k = j_ - 1; (rw [e0, pk_us]; congr 2; omega); (rw [pk_un e0]; exact hi2 k (by omega) h2), fun h => by rw [hR.xpa hW (up_pos hW _ _ hl0 (by omega)) (up_in hW _ _ hl0 (by omega)), ← up_s]; congr 2; omega⟩) (by omega) (hP.sub [0, 1, 2, 3] rfl) (hD.sub [0, 1, 2, 3] (by decide) rfl) hS (lv_sub hl [2, 3, 4, 0, 1] rfl)
  exact loop28 _ cnt pc (nI leaf) H locs ls (⟨by omega, fun k h1 h2 => absurd h1 (by omega), fun h => by rw [Nat.sub_self]; rfl⟩) (Nat.lt_succ_self _) (hP.sub [0, 1, 2, 3] rfl) (hD.sub [0, 1, 2, 3] (by decide) rfl) hS (lv_sub hl [2, 3, 4, 0, 1] rfl)
theorem hdX3_traceBranch : yX3_traceBranch.cls = RX3 ∧ yX3_traceBranch.cls ≠ "java/lang/invoke/MethodHandle" ∧ yX3_traceBranch.cls ≠ "java/lang/invoke/VarHandle" ∧ (parseMethodDescriptor yX3_traceBranch.desc).map (fun d => d.parameters.length) = some 2 := by decide +kernel
set_option maxHeartbeats 4000000 in
set_option maxRecDepth 100000 in
theorem kX3_traceBranch (ln : Launch) (dg : va_G) (tq : ClassId × ClassId) (w0 w1 : Nat) (len : Int32) (pc : Row) (h0 h1 : Nat) (c : Row) (s : Row) (hR : XR s c) (hW : WF s) (b : Nat) (hb0 : b < nB s) : MV ln yX3_traceBranch wsX3_traceBranch (rmm 2 47) dg tq [.ref w0, .ref h0, .int (nI b)] [(w0, .inr (3, [.ref w1, .int len])), (w1, .inl (tq.1, 60, .inl pc)), (h0, .inr (1, [.ref h1])), (h1, .inl (tq.1, 1473, .inl c))] (fun (u : Row) => ∀ k, k < mn s b → u k = nI (brE s b k)) (fun u => [(w0, .inr (3, [.ref w1, .int (nI (mn s b))])), (w1, .inl (tq.1, 60, .inl u)), (h0, .inr (1, [.ref h1])), (h1, .inl (tq.1, 1473, .inl c))]) := by
  refine MV.enter cX3_traceBranch 3 (by decide) rfl rfl (Nat.le_of_ble_eq_true rfl) ?_
  intro pP eE sS mM aA bB mT cC QQ AA hA hAT hret H locs hP hD hS ls hl
  obtain ⟨hx, hb, hml, hown, hts, hK, hN⟩ := hAT
  have hown : sS.vm.findClass RX3 = some mM.cls := hown
  have hl : lv_has ls 3 [(0, .ref w0), (1, .ref h0), (2, .int (nI b))] := hl
  have hn60 := hW.n60
  have hb10 := hW.b10
  have hs8 := hW.s8
  have hlf := hW.lfl hb0
  have hmn := hW.mnd hb0
  refine lv_aload_n hx hb dX3_traceBranch_0 rfl (lv_at hl 0 rfl) ?_
  refine lv_aload_n hx hb dX3_traceBranch_1 rfl (lv_at hl 1 rfl) ?_
  refine lv_aload_n hx hb dX3_traceBranch_2 rfl (lv_at hl 1 rfl) ?_
  refine lv_iload_n hx hb dX3_traceBranch_3 rfl (lv_at hl 2 rfl) ?_
  refine lv_iconst (v := (nI 0)) hx hb dX3_traceBranch_4 (by decide) ?_
  refine call_x (va_runV (As := [.int (nI b), .int (nI 0)]) (rest := [.ref h0, .ref w0]) ⟨hx, hb, hml, hown, hts⟩ (kX1_ofBranch ln dg tq (h0 := h0) (h1 := h1) (c := c) (e := b) (f := 0) (he := (by omega)) (hf := (by omega)) H.size) (cwV 2 hts gX3_traceBranch_X1_ofBranch rfl rfl rfl hdX1_ofBranch ⟨Nat.le_of_ble_eq_true rfl, Nat.le_of_ble_eq_true rfl⟩) (preVR hK hN hP [2, 3] rfl 2 rfl rfl [.int (nI b), .int (nI 0)]) rfl rfl hl.1 rfl (lv_room (Nat.le_of_ble_eq_true rfl)) dX3_traceBranch_5 ⟨Nat.le_refl _, Nat.le_refl _⟩) hP hS hA (fun H locs hP hS => ?_)
  refine r_top (show (c (425 + b * 5 + 0)) = (nI (lf s b)) from hR.LF hW (by omega)) ?_
  refine lv_aload_n hx hb dX3_traceBranch_8 rfl (lv_at hl 1 rfl) ?_
  refine lv_iload_n hx hb dX3_traceBranch_9 rfl (lv_at hl 2 rfl) ?_
  refine lv_iconst (v := (nI 1)) hx hb dX3_traceBranch_10 (by decide) ?_
  refine call_x (va_runV (As := [.int (nI b), .int (nI 1)]) (rest := [.int (nI (lf s b)), .ref h0, .ref w0]) ⟨hx, hb, hml, hown, hts⟩ (kX1_ofBranch ln dg tq (h0 := h0) (h1 := h1) (c := c) (e := b) (f := 1) (he := (by omega)) (hf := (by omega)) H.size) (cwV 2 hts gX3_traceBranch_X1_ofBranch rfl rfl rfl hdX1_ofBranch ⟨Nat.le_of_ble_eq_true rfl, Nat.le_of_ble_eq_true rfl⟩) (preVR hK hN hP [2, 3] rfl 2 rfl rfl [.int (nI b), .int (nI 1)]) rfl rfl hl.1 rfl (lv_room (Nat.le_of_ble_eq_true rfl)) dX3_traceBranch_11 ⟨Nat.le_refl _, Nat.le_refl _⟩) hP hS hA (fun H locs hP hS => ?_)
  refine r_top (show (c (425 + b * 5 + 1)) = (nI (mn s b)) from hR.MN hW (by omega)) ?_
  refine call_v (wr := []) (va_runV (As := [.ref h0, .int (nI (lf s b)), .int (nI (mn s b))]) (rest := []) ⟨hx, hb, hml, hown, hts⟩ (kX3_trace ln dg tq (w0 := w0) (w1 := w1) (len := len) (pc := pc) (h0 := h0) (h1 := h1) (c := c) (s := s) (hR := hR) (hW := hW) (leaf := lf s b) (cnt := mn s b) (hl0 := (by omega)) (hc0 := (by omega)) H.size) (cwV 3 hts gX3_traceBranch_X3_trace rfl rfl rfl hdX3_trace ⟨Nat.le_of_ble_eq_true rfl, Nat.le_of_ble_eq_true rfl⟩) (preVB hK hN hP hD [0, 1, 2, 3] rfl rfl rfl 0 rfl rfl [.ref h0, .int (nI (lf s b)), .int (nI (mn s b))]) rfl rfl hl.1 rfl (lv_room (Nat.le_of_ble_eq_true rfl)) dX3_traceBranch_14 ⟨Nat.le_refl _, Nat.le_refl _⟩) hP hD hS hA [0, 1, 2, 3] [] rfl rfl (by decide) (by decide) (fun u14 H locs hw14 hP hD hS => ?_)
  obtain ⟨g14, rfl⟩ : ∃ z, z = u14 := ⟨_, rfl⟩
  have hP : va_P dg vwCl [(w0, .inr (3, [.ref w1, .int (nI (mn s b))])), (w1, .inl (tq.1, 60, .inl g14)), (h0, .inr (1, [.ref h1])), (h1, .inl (tq.1, 1473, .inl c))] H := hP
  have hD : va_D AA [(w0, .inr (3, [.ref w1, .int (nI (mn s b))])), (w1, .inl (tq.1, 60, .inl g14)), (h0, .inr (1, [.ref h1])), (h1, .inl (tq.1, 1473, .inl c))] := hD
  exact hret (g14) H locs _ ls (hw14) (hP.sub [0, 1, 2, 3] rfl) (hD.sub [0, 1, 2, 3] (by decide) rfl) hS dX3_traceBranch_17
