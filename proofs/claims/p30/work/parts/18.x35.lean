theorem hdJ7_fill_53178 : yJ7_fill_53178.cls = RJ7 ∧ yJ7_fill_53178.cls ≠ "java/lang/invoke/MethodHandle" ∧ yJ7_fill_53178.cls ≠ "java/lang/invoke/VarHandle" ∧ (parseMethodDescriptor yJ7_fill_53178.desc).map (fun d => d.parameters.length) = some 2 := by decide +kernel
set_option maxHeartbeats 4000000 in
set_option maxRecDepth 100000 in
theorem kJ7_fill_53178 (ln : Launch) (dg : va_G) (tq : ClassId × ClassId) (a0 n : Nat) (f : Row) (v : Int32) (hn : n < 2147483648) : MV ln yJ7_fill_53178 wsJ7_fill_53178 (rmm 0 0) dg tq [.ref a0, .int v] [(a0, .inl (tq.1, n, .inl f))] (fun (u : Row) => ∀ i, i < n → u i = v) (fun u => [(a0, .inl (tq.1, n, .inl u))]) := by
  refine MV.enter cJ7_fill_53178 4 (by decide) rfl rfl (Nat.le_of_ble_eq_true rfl) ?_
  intro pP eE sS mM aA bB mT cC QQ AA hA hAT hret H locs hP hD hS ls hl
  obtain ⟨hx, hb, hml, hown, hts, hK, hN⟩ := hAT
  have hown : sS.vm.findClass RJ7 = some mM.cls := hown
  have hl : lv_has ls 4 [(0, .ref a0), (1, .int v)] := hl
  refine lv_iconst (v := (nI 0)) hx hb dJ7_fill_53178_0 (by decide) ?_
  refine lv_istore_n (lv' := [(2, .int (nI 0)), (0, .ref a0), (1, .int v)]) hx hb dJ7_fill_53178_1 rfl hl (by decide) rfl (fun ls hl => ?_)
  refine lv_aload_n hx hb dJ7_fill_53178_2 rfl (lv_at hl 1 rfl) ?_
  refine va_alen (v := (nI n)) hx hb hK hP 0 0 rfl rfl rfl dJ7_fill_53178_3 ?_
  refine lv_istore_n (lv' := [(3, .int (nI n)), (2, .int (nI 0)), (0, .ref a0), (1, .int v)]) hx hb dJ7_fill_53178_4 rfl hl (by decide) rfl (fun ls hl => ?_)
  have loop5 : ∀ (fu : Nat) (i_ : Nat) (f_ : Row) (H : Heap) (locs : List Loc) (ls : Array Slot), ((∀ i, i < i_ → f_ i = v) ∧ i_ ≤ n) → n - i_ < fu → va_P dg vwCl [(a0, .inl (tq.1, n, .inl f_))] H → va_D AA [(a0, .inl (tq.1, n, .inl f_))] → va_S AA sS.heap H locs → lv_has ls 4 [(0, .ref a0), (1, .int v), (2, .int (nI i_)), (3, .int (nI n))] → W pP ln eE (rmm 0 0) sS mM aA bB mT cC H locs 0 0 QQ (F0 mM 5 ls []) := by
    intro fu
    induction fu with
    | zero => intro i_ f_ H locs ls _ hm; exact absurd hm (Nat.not_lt_zero _)
    | succ fu ih5 =>
      intro i_ f_ H locs ls hinv hm hP hD hS hl
      obtain ⟨hi1, hi2⟩ := hinv
      refine lv_iload_n hx hb dJ7_fill_53178_5 rfl (lv_at hl 2 rfl) ?_
      refine lv_iload_n hx hb dJ7_fill_53178_6 rfl (lv_at hl 3 rfl) ?_
      refine r_icmp_ge (tgt := 20) hx hb (nI_tI (by omega)) (nI_tI (by omega)) dJ7_fill_53178_7 (by decide) (fun c7 => ?_) (fun c7 => ?_)
      · skip
        exact hret (f_) H locs _ ls (fun i h => hi1 i (by omega)) (hP.sub [0] rfl) (hD.sub [0] (by decide) rfl) hS dJ7_fill_53178_20
      · skip
        refine lv_aload_n hx hb dJ7_fill_53178_10 rfl (lv_at hl 0 rfl) ?_
        refine lv_iload_n hx hb dJ7_fill_53178_11 rfl (lv_at hl 2 rfl) ?_
        refine lv_iload_n hx hb dJ7_fill_53178_12 rfl (lv_at hl 1 rfl) ?_
        refine r_iast_n hx hb hK hP hD hS 0 rfl (k := i_) (by omega) (by omega) dJ7_fill_53178_13 (fun H locs hP hD hS => ?_)
        have hP : va_P dg vwCl [(a0, .inl (tq.1, n, .inl (upd f_ i_ v)))] H := hP
        have hD : va_D AA [(a0, .inl (tq.1, n, .inl (upd f_ i_ v)))] := hD
        refine lv_iinc (v := (nI (i_ + 1))) (lv' := [(2, .int (nI (i_ + 1))), (0, .ref a0), (1, .int v), (3, .int (nI n))]) hx hb dJ7_fill_53178_14 hl (k := 2) rfl (nI_add _ _) (by decide) rfl (fun ls hl => ?_)
        refine lv_goto (tgt := 5) hx hb dJ7_fill_53178_17 (by decide) ?_
        exact ih5 (i_ + 1) (upd f_ i_ v) H locs ls (⟨fun i h => by by_cases e0 : i = i_; (rw [e0, pk_us]); (rw [pk_un e0]; exact hi1 i (by omega)), by omega⟩) (by omega) (hP.sub [0] rfl) (hD.sub [0] (by decide) rfl) hS (lv_sub hl [1, 2, 0, 3] rfl)
  exact loop5 _ 0 f H locs ls (⟨fun i h => absurd h (Nat.not_lt_zero i), by omega⟩) (Nat.lt_succ_self _) (hP.sub [0] rfl) (hD.sub [0] (by decide) rfl) hS (lv_sub hl [2, 3, 1, 0] rfl)
theorem hdX3_length : yX3_length.cls = RX3 ∧ yX3_length.cls ≠ "java/lang/invoke/MethodHandle" ∧ yX3_length.cls ≠ "java/lang/invoke/VarHandle" ∧ (parseMethodDescriptor yX3_length.desc).map (fun d => d.parameters.length) = some 0 := by decide +kernel
set_option maxHeartbeats 4000000 in
set_option maxRecDepth 100000 in
theorem kX3_length (ln : Launch) (dg : va_G) (tq : ClassId × ClassId) (w0 w1 : Nat) (len : Nat) (pc : Row) : MR ln yX3_length wsX3_length (rmm 0 0) dg tq [.ref w0] [(w0, .inr (3, [.ref w1, .int (nI len)])), (w1, .inl (tq.1, 60, .inl pc))] (fun r => r = (nI len)) := by
  refine MR.enter cX3_length 1 .int (by decide) rfl rfl (Nat.le_of_ble_eq_true rfl) ?_
  intro pP eE sS mM aA bB mT cC QQ AA hA hAT hret H locs hP hS ls hl
  obtain ⟨hx, hb, hml, hown, hts, hK, hN⟩ := hAT
  have hown : sS.vm.findClass RX3 = some mM.cls := hown
  have hl : lv_has ls 1 [(0, .ref w0)] := hl
  have in3 : ∀ w ∈ u_ws RX3 TX3 2, w ∈ wsX3_length := (fun _ h9 => List.mem_cons_of_mem _ (List.mem_append_right _ h9))
  have f15 := hts (.fieldLink RX3 15 "OrphanChain$Path" "length" "I") (List.mem_of_getElem? (i := 1) rfl)
  refine lv_aload_n hx hb dX3_length_0 rfl (lv_at hl 0 rfl) ?_
  refine va_get (D := dg) (ci := 3) (v := .int (nI len)) (C := RX3) (T := TX3) (N := 2) hx hb hts in3 hown hK hP 0 rfl rfl 1 (by decide) f15 (fun _ h9 => h9) rfl dX3_length_1 ?_
  exact hret (nI len) H locs _ ls (rfl) rfl hS dX3_length_4
theorem hdX3_at : yX3_at.cls = RX3 ∧ yX3_at.cls ≠ "java/lang/invoke/MethodHandle" ∧ yX3_at.cls ≠ "java/lang/invoke/VarHandle" ∧ (parseMethodDescriptor yX3_at.desc).map (fun d => d.parameters.length) = some 1 := by decide +kernel
set_option maxHeartbeats 4000000 in
set_option maxRecDepth 100000 in
theorem kX3_at (ln : Launch) (dg : va_G) (tq : ClassId × ClassId) (w0 w1 : Nat) (len : Nat) (pc : Row) (k : Nat) (hk : k < len) (hlen : len ≤ 60) : MR ln yX3_at wsX3_at (rmm 0 0) dg tq [.ref w0, .int (nI k)] [(w0, .inr (3, [.ref w1, .int (nI len)])), (w1, .inl (tq.1, 60, .inl pc))] (fun r => r = (pc k)) := by
  refine MR.enter cX3_at 2 .int (by decide) rfl rfl (Nat.le_of_ble_eq_true rfl) ?_
  intro pP eE sS mM aA bB mT cC QQ AA hA hAT hret H locs hP hS ls hl
  obtain ⟨hx, hb, hml, hown, hts, hK, hN⟩ := hAT
  have hown : sS.vm.findClass RX3 = some mM.cls := hown
  have hl : lv_has ls 2 [(0, .ref w0), (1, .int (nI k))] := hl
  have in3 : ∀ w ∈ u_ws RX3 TX3 2, w ∈ wsX3_at := (fun _ h9 => List.mem_cons_of_mem _ (List.mem_append_right _ h9))
  have f15 := hts (.fieldLink RX3 15 "OrphanChain$Path" "length" "I") (List.mem_of_getElem? (i := 1) rfl)
  have f9 := hts (.fieldLink RX3 9 "OrphanChain$Path" "entries" "[I") (List.mem_of_getElem? (i := 2) rfl)
  refine lv_iload_n hx hb dX3_at_0 rfl (lv_at hl 1 rfl) ?_
  refine r_if_lt (tgt := 30) hx hb (nI_tI (by omega)) dX3_at_1 (by decide) (fun c1 => False.elim (by omega)) (fun c1 => ?_)
  refine lv_iload_n hx hb dX3_at_4 rfl (lv_at hl 1 rfl) ?_
  refine lv_aload_n hx hb dX3_at_5 rfl (lv_at hl 0 rfl) ?_
  refine va_get (D := dg) (ci := 3) (v := .int (nI len)) (C := RX3) (T := TX3) (N := 2) hx hb hts in3 hown hK hP 0 rfl rfl 1 (by decide) f15 (fun _ h9 => h9) rfl dX3_at_6 ?_
  refine r_icmp_ge (tgt := 30) hx hb (nI_tI (by omega)) (nI_tI (by omega)) dX3_at_9 (by decide) (fun c9 => False.elim (by omega)) (fun c9 => ?_)
  refine lv_iload_n hx hb dX3_at_12 rfl (lv_at hl 1 rfl) ?_
  refine lv_aload_n hx hb dX3_at_13 rfl (lv_at hl 0 rfl) ?_
  refine va_get (D := dg) (ci := 3) (v := .ref w1) (C := RX3) (T := TX3) (N := 2) hx hb hts in3 hown hK hP 0 rfl rfl 0 (by decide) f9 (fun _ h9 => h9) rfl dX3_at_14 ?_
  refine va_alen (v := (nI 60)) hx hb hK hP 1 0 rfl rfl rfl dX3_at_17 ?_
  refine r_icmp_ge (tgt := 30) hx hb (nI_tI (by omega)) (nI_tI (by omega)) dX3_at_18 (by decide) (fun c18 => False.elim (by omega)) (fun c18 => ?_)
  refine lv_aload_n hx hb dX3_at_21 rfl (lv_at hl 0 rfl) ?_
  refine va_get (D := dg) (ci := 3) (v := .ref w1) (C := RX3) (T := TX3) (N := 2) hx hb hts in3 hown hK hP 0 rfl rfl 0 (by decide) f9 (fun _ h9 => h9) rfl dX3_at_22 ?_
  refine lv_iload_n hx hb dX3_at_25 rfl (lv_at hl 1 rfl) ?_
  refine r_iald_n hx hb hK hP 1 rfl (k := k) (by omega) (by omega) dX3_at_26 ?_
  refine lv_goto (tgt := 32) hx hb dX3_at_27 (by decide) ?_
  exact hret (pc k) H locs _ ls (rfl) rfl hS dX3_at_32
set_option maxHeartbeats 4000000 in
set_option maxRecDepth 100000 in
theorem kX3_at__r (ln : Launch) (dg : va_G) (tq : ClassId × ClassId) (w0 w1 : Nat) (len : Nat) (pc : Row) (x : Int32) (hlen : len ≤ 60) : MR ln yX3_at wsX3_at (rmm 0 0) dg tq [.ref w0, .int x] [(w0, .inr (3, [.ref w1, .int (nI len)])), (w1, .inl (tq.1, 60, .inl pc))] (fun r => r = (if hasN x len = true then pc x.toNatClampNeg else -100009)) := by
  refine MR.enter cX3_at 2 .int (by decide) rfl rfl (Nat.le_of_ble_eq_true rfl) ?_
  intro pP eE sS mM aA bB mT cC QQ AA hA hAT hret H locs hP hS ls hl
  obtain ⟨hx, hb, hml, hown, hts, hK, hN⟩ := hAT
  have hown : sS.vm.findClass RX3 = some mM.cls := hown
  have hl : lv_has ls 2 [(0, .ref w0), (1, .int x)] := hl
  have in3 : ∀ w ∈ u_ws RX3 TX3 2, w ∈ wsX3_at := (fun _ h9 => List.mem_cons_of_mem _ (List.mem_append_right _ h9))
  have k40 := hts (.constant RX3 40 (-100009)) (List.mem_of_getElem? (i := 3) rfl)
  have f15 := hts (.fieldLink RX3 15 "OrphanChain$Path" "length" "I") (List.mem_of_getElem? (i := 1) rfl)
  have f9 := hts (.fieldLink RX3 9 "OrphanChain$Path" "entries" "[I") (List.mem_of_getElem? (i := 2) rfl)
  refine lv_iload_n hx hb dX3_at_0 rfl (lv_at hl 1 rfl) ?_
  refine r_if_lt (tgt := 30) hx hb rfl dX3_at_1 (by decide) (fun c1 => ?_) (fun c1 => ?_)
  · skip
    refine lv_ldc hx hb hown k40 dX3_at_30 ?_
    exact hret (-100009) H locs _ ls (by first | (rw [hasN_n (by omega) (by omega), if_pos rfl, nI_clamp (by omega)]; done) | (rw [if_neg (fun z => by have z := of_decide_eq_true z; omega)])) rfl hS dX3_at_32
  · skip
    refine lv_iload_n hx hb dX3_at_4 rfl (lv_at hl 1 rfl) ?_
    refine lv_aload_n hx hb dX3_at_5 rfl (lv_at hl 0 rfl) ?_
    refine va_get (D := dg) (ci := 3) (v := .int (nI len)) (C := RX3) (T := TX3) (N := 2) hx hb hts in3 hown hK hP 0 rfl rfl 1 (by decide) f15 (fun _ h9 => h9) rfl dX3_at_6 ?_
    refine r_icmp_ge (tgt := 30) hx hb rfl (nI_tI (by omega)) dX3_at_9 (by decide) (fun c9 => ?_) (fun c9 => ?_)
    · skip
      refine lv_ldc hx hb hown k40 dX3_at_30 ?_
      exact hret (-100009) H locs _ ls (by first | (rw [hasN_n (by omega) (by omega), if_pos rfl, nI_clamp (by omega)]; done) | (rw [if_neg (fun z => by have z := of_decide_eq_true z; omega)])) rfl hS dX3_at_32
    · skip
      obtain ⟨xk, hxk, rfl⟩ := tI_natlt (by omega) c9
      refine lv_iload_n hx hb dX3_at_12 rfl (lv_at hl 1 rfl) ?_
      refine lv_aload_n hx hb dX3_at_13 rfl (lv_at hl 0 rfl) ?_
      refine va_get (D := dg) (ci := 3) (v := .ref w1) (C := RX3) (T := TX3) (N := 2) hx hb hts in3 hown hK hP 0 rfl rfl 0 (by decide) f9 (fun _ h9 => h9) rfl dX3_at_14 ?_
      refine va_alen (v := (nI 60)) hx hb hK hP 1 0 rfl rfl rfl dX3_at_17 ?_
      refine r_icmp_ge (tgt := 30) hx hb (nI_tI (by omega)) (nI_tI (by omega)) dX3_at_18 (by decide) (fun c18 => False.elim (by omega)) (fun c18 => ?_)
      refine lv_aload_n hx hb dX3_at_21 rfl (lv_at hl 0 rfl) ?_
      refine va_get (D := dg) (ci := 3) (v := .ref w1) (C := RX3) (T := TX3) (N := 2) hx hb hts in3 hown hK hP 0 rfl rfl 0 (by decide) f9 (fun _ h9 => h9) rfl dX3_at_22 ?_
      refine lv_iload_n hx hb dX3_at_25 rfl (lv_at hl 1 rfl) ?_
      refine r_iald_n hx hb hK hP 1 rfl (k := xk) (by omega) (by omega) dX3_at_26 ?_
      refine lv_goto (tgt := 32) hx hb dX3_at_27 (by decide) ?_
      exact hret (pc xk) H locs _ ls (by first | (rw [hasN_n (by omega) (by omega), if_pos rfl, nI_clamp (by omega)]; done) | (rw [if_neg (fun z => by have z := of_decide_eq_true z; omega)])) rfl hS dX3_at_32
theorem hdX3_trace : yX3_trace.cls = RX3 ∧ yX3_trace.cls ≠ "java/lang/invoke/MethodHandle" ∧ yX3_trace.cls ≠ "java/lang/invoke/VarHandle" ∧ (parseMethodDescriptor yX3_trace.desc).map (fun d => d.parameters.length) = some 3 := by decide +kernel
set_option maxHeartbeats 4000000 in
set_option maxRecDepth 100000 in
theorem kX3_trace (ln : Launch) (dg : va_G) (tq : ClassId × ClassId) (w0 w1 : Nat) (len : Int32) (pc : Row) (h0 h1 : Nat) (c : Row) (s : Row) (hR : XR s c) (hW : WF s) (leaf cnt : Nat) (hl0 : leaf < nE s) (hc0 : cnt ≤ dep s leaf) : MV ln yX3_trace wsX3_trace (rmm 1 22) dg tq [.ref w0, .ref h0, .int (nI leaf), .int (nI cnt)] [(w0, .inr (3, [.ref w1, .int len])), (w1, .inl (tq.1, 60, .inl pc)), (h0, .inr (1, [.ref h1])), (h1, .inl (tq.1, 1473, .inl c))] (fun (u : Row) => ∀ k, k < cnt → u k = nI (up s leaf (cnt - 1 - k))) (fun u => [(w0, .inr (3, [.ref w1, .int (nI cnt)])), (w1, .inl (tq.1, 60, .inl u)), (h0, .inr (1, [.ref h1])), (h1, .inl (tq.1, 1473, .inl c))]) := by
  refine MV.enter cX3_trace 6 (by decide) rfl rfl (Nat.le_of_ble_eq_true rfl) ?_
  intro pP eE sS mM aA bB mT cC QQ AA hA hAT hret H locs hP hD hS ls hl
  obtain ⟨hx, hb, hml, hown, hts, hK, hN⟩ := hAT
  have hown : sS.vm.findClass RX3 = some mM.cls := hown
  have hl : lv_has ls 6 [(0, .ref w0), (1, .ref h0), (2, .int (nI leaf)), (3, .int (nI cnt))] := hl
  have in3 : ∀ w ∈ u_ws RX3 TX3 2, w ∈ wsX3_trace := (fun _ h9 => List.mem_cons_of_mem _ (List.mem_append_left _ (List.mem_append_right _ h9)))
  have f9 := hts (.fieldLink RX3 9 "OrphanChain$Path" "entries" "[I") (List.mem_of_getElem? (i := 1) rfl)
  have k19 := hts (.methodLink RX3 19 Lib.Math.min.name) (List.mem_of_getElem? (i := 2) rfl)
  have msmin := hts (.static Lib.Math.min.name) (List.mem_of_getElem? (i := 3) rfl)
  have mi := hts (.initialized "java/lang/Math") (List.mem_of_getElem? (i := 4) rfl)
  have mcmin := hts (.code Lib.Math.min.name Lib.Math.min.code 2 (some .int)) (List.mem_of_getElem? (i := 5) rfl)
  have k25 := hts (.methodLink RX3 25 Lib.Math.max.name) (List.mem_of_getElem? (i := 6) rfl)
  have msmax := hts (.static Lib.Math.max.name) (List.mem_of_getElem? (i := 7) rfl)
  have mcmax := hts (.code Lib.Math.max.name Lib.Math.max.code 2 (some .int)) (List.mem_of_getElem? (i := 8) rfl)
  have f15 := hts (.fieldLink RX3 15 "OrphanChain$Path" "length" "I") (List.mem_of_getElem? (i := 9) rfl)
  have hn60 := hW.n60
  have hb10 := hW.b10
  have hs8 := hW.s8
  have hdl := dep_le hW leaf hl0
  refine lv_aload_n hx hb dX3_trace_0 rfl (lv_at hl 0 rfl) ?_
  refine lv_iconst (v := (nI 0)) hx hb dX3_trace_1 (by decide) ?_
  refine lv_iload_n hx hb dX3_trace_2 rfl (lv_at hl 3 rfl) ?_
  refine lv_aload_n hx hb dX3_trace_3 rfl (lv_at hl 0 rfl) ?_
  refine va_get (D := dg) (ci := 3) (v := .ref w1) (C := RX3) (T := TX3) (N := 2) hx hb hts in3 hown hK hP 0 rfl rfl 0 (by decide) f9 (fun _ h9 => h9) rfl dX3_trace_4 ?_
  refine va_alen (v := (nI 60)) hx hb hK hP 1 0 rfl rfl rfl dX3_trace_7 ?_
  refine va_mmin hx hb (hml.trans hl.1.symm) hown k19 msmin mi mcmin (Nat.le_of_ble_eq_true rfl) (Nat.le_of_ble_eq_true rfl) (Nat.le_refl _) (Nat.le_refl _) dX3_trace_8 ?_
  refine r_top (show (if (nI 60) < (nI cnt) then (nI 60) else (nI cnt)) = (nI cnt) from by rw [if_neg (nI_nlt (by omega) (by omega))]) ?_
  refine va_mmax hx hb (hml.trans hl.1.symm) hown k25 msmax mi mcmax (Nat.le_of_ble_eq_true rfl) (Nat.le_of_ble_eq_true rfl) (Nat.le_refl _) (Nat.le_refl _) dX3_trace_11 ?_
  refine r_top (show (if (nI 0) < (nI cnt) then (nI cnt) else (nI 0)) = (nI cnt) from max_0 (by omega)) ?_
  refine va_put (D := dg) (ci := 3) (v := .int (nI cnt)) (ty := .int) (C := RX3) (T := TX3) (N := 2) hx hb hts in3 tyX3 tyX3_ok nmX3 hown hK hP hD hS 0 rfl rfl 1 (by decide) f15 (fun _ h9 => h9) rfl (by decide +kernel) rfl rfl (Nat.le_of_ble_eq_true rfl) dX3_trace_14 (fun H locs hP hD hS => ?_)
  have hP : va_P dg vwCl [(w0, .inr (3, [.ref w1, .int (nI cnt)])), (w1, .inl (tq.1, 60, .inl pc)), (h0, .inr (1, [.ref h1])), (h1, .inl (tq.1, 1473, .inl c))] H := hP
  have hD : va_D AA [(w0, .inr (3, [.ref w1, .int (nI cnt)])), (w1, .inl (tq.1, 60, .inl pc)), (h0, .inr (1, [.ref h1])), (h1, .inl (tq.1, 1473, .inl c))] := hD
  refine lv_iload_n hx hb dX3_trace_17 rfl (lv_at hl 2 rfl) ?_
  refine lv_istore (lv' := [(4, .int (nI leaf)), (0, .ref w0), (1, .ref h0), (2, .int (nI leaf)), (3, .int (nI cnt))]) hx hb dX3_trace_18 hl (by decide) rfl (fun ls hl => ?_)
  refine lv_aload_n hx hb dX3_trace_20 rfl (lv_at hl 1 rfl) ?_
  refine va_get (D := dg) (ci := 3) (v := .int (nI cnt)) (C := RX3) (T := TX3) (N := 2) hx hb hts in3 hown hK hP 0 rfl rfl 1 (by decide) f15 (fun _ h9 => h9) rfl dX3_trace_21 ?_
  refine lv_iconst (v := (nI 1)) hx hb dX3_trace_24 (by decide) ?_
  refine r_isub_z hx hb (nI_iI _) (nI_iI _) dX3_trace_25 ?_
  refine lv_istore (lv' := [(5, .int (iI (((cnt : Nat) : Int) - ((1 : Nat) : Int)))), (4, .int (nI leaf)), (0, .ref w0), (1, .ref h0), (2, .int (nI leaf)), (3, .int (nI cnt))]) hx hb dX3_trace_26 hl (by decide) rfl (fun ls hl => ?_)
  have loop28 : ∀ (fu : Nat) (j_ : Nat) (f_ : Row) (x_ : Int32) (H : Heap) (locs : List Loc) (ls : Array Slot), (j_ ≤ cnt ∧ (∀ k, j_ ≤ k → k < cnt → f_ k = nI (up s leaf (cnt - 1 - k))) ∧ (0 < j_ → x_ = nI (up s leaf (cnt - j_)))) → j_ < fu → va_P dg vwCl [(w0, .inr (3, [.ref w1, .int (nI cnt)])), (w1, .inl (tq.1, 60, .inl f_)), (h0, .inr (1, [.ref h1])), (h1, .inl (tq.1, 1473, .inl c))] H → va_D AA [(w0, .inr (3, [.ref w1, .int (nI cnt)])), (w1, .inl (tq.1, 60, .inl f_)), (h0, .inr (1, [.ref h1])), (h1, .inl (tq.1, 1473, .inl c))] → va_S AA sS.heap H locs → lv_has ls 6 [(0, .ref w0), (1, .ref h0), (2, .int (nI leaf)), (5, .int (iI (((j_ : Nat) : Int) - 1))), (4, .int x_)] → W pP ln eE (rmm 1 22) sS mM aA bB mT cC H locs 0 0 QQ (F0 mM 28 ls []) := by
    intro fu
    induction fu with
    | zero => intro j_ f_ x_ H locs ls _ hm; exact absurd hm (Nat.not_lt_zero _)
    | succ fu ih28 =>
      intro j_ f_ x_ H locs ls hinv hm hP hD hS hl
      obtain ⟨hi1, hi2, hi3⟩ := hinv
      refine lv_iload hx hb dX3_trace_28 (lv_at hl 3 rfl) ?_
      refine r_if_lt (tgt := 57) hx hb (iI_toInt (by omega) (by omega)) dX3_trace_30 (by decide) (fun c30 => ?_) (fun c30 => ?_)
      · skip
        exact hret (f_) H locs _ ls (fun k h => hi2 k (by omega) h) (hP.sub [0, 1, 2, 3] rfl) (hD.sub [0, 1, 2, 3] (by decide) rfl) hS dX3_trace_57
      · skip
        refine lv_aload_n hx hb dX3_trace_33 rfl (lv_at hl 0 rfl) ?_
        refine va_get (D := dg) (ci := 3) (v := .ref w1) (C := RX3) (T := TX3) (N := 2) hx hb hts in3 hown hK hP 0 rfl rfl 0 (by decide) f9 (fun _ h9 => h9) rfl dX3_trace_34 ?_
        refine lv_iload hx hb dX3_trace_37 (lv_at hl 3 rfl) ?_
        refine r_top (show (iI (((j_ : Nat) : Int) - 1)) = (nI (j_ - 1)) from iI_n (by omega)) ?_
        refine lv_iload hx hb dX3_trace_39 (lv_at hl 4 rfl) ?_
        refine r_top (show x_ = (nI (up s leaf (cnt - j_))) from hi3 (by omega)) ?_
        refine r_iast_n hx hb hK hP hD hS 1 rfl (k := (j_ - 1)) (by omega) (by omega) dX3_trace_41 (fun H locs hP hD hS => ?_)
        have hP : va_P dg vwCl [(w0, .inr (3, [.ref w1, .int (nI cnt)])), (w1, .inl (tq.1, 60, .inl (upd f_ (j_ - 1) (nI (up s leaf (cnt - j_)))))), (h0, .inr (1, [.ref h1])), (h1, .inl (tq.1, 1473, .inl c))] H := hP
        have hD : va_D AA [(w0, .inr (3, [.ref w1, .int (nI cnt)])), (w1, .inl (tq.1, 60, .inl (upd f_ (j_ - 1) (nI (up s leaf (cnt - j_)))))), (h0, .inr (1, [.ref h1])), (h1, .inl (tq.1, 1473, .inl c))] := hD
        have hup := up_in hW (cnt - j_) leaf hl0 (by omega)
        refine lv_aload_n hx hb dX3_trace_42 rfl (lv_at hl 1 rfl) ?_
        refine lv_iload hx hb dX3_trace_43 (lv_at hl 4 rfl) ?_
        refine r_top (show x_ = (nI (up s leaf (cnt - j_))) from hi3 (by omega)) ?_
        refine lv_iconst (v := (nI 4)) hx hb dX3_trace_45 (by decide) ?_
        refine call_x (va_runV (As := [.int (nI (up s leaf (cnt - j_))), .int (nI 4)]) (rest := []) ⟨hx, hb, hml, hown, hts⟩ (kX1_ofEntry ln dg tq (h0 := h0) (h1 := h1) (c := c) (e := up s leaf (cnt - j_)) (f := 4) (he := (by omega)) (hf := (by omega)) H.size) (cwV 2 hts gX3_trace_X1_ofEntry rfl rfl rfl hdX1_ofEntry ⟨Nat.le_of_ble_eq_true rfl, Nat.le_of_ble_eq_true rfl⟩) (preVR hK hN hP [2, 3] rfl 2 rfl rfl [.int (nI (up s leaf (cnt - j_))), .int (nI 4)]) rfl rfl hl.1 rfl (lv_room (Nat.le_of_ble_eq_true rfl)) dX3_trace_46 ⟨Nat.le_refl _, Nat.le_refl _⟩) hP hS hA (fun H locs hP hS => ?_)
        refine lv_istore (lv' := [(4, .int (c (5 + (up s leaf (cnt - j_)) * 7 + 4))), (0, .ref w0), (1, .ref h0), (2, .int (nI leaf)), (5, .int (iI (((j_ : Nat) : Int) - 1)))]) hx hb dX3_trace_49 hl (by decide) rfl (fun ls hl => ?_)
        refine lv_iinc (v := (iI ((((j_ : Nat) : Int) - 1) + (-1)))) (lv' := [(5, .int (iI ((((j_ : Nat) : Int) - 1) + (-1)))), (4, .int (c (5 + (up s leaf (cnt - j_)) * 7 + 4))), (0, .ref w0), (1, .ref h0), (2, .int (nI leaf))]) hx hb dX3_trace_51 hl (k := 4) rfl (iI_add _ _) (by decide) rfl (fun ls hl => ?_)
        have hl : lv_has ls 6 [(5, .int (iI (((j_ - 1 : Nat) : Int) - 1))), (4, .int (c (5 + (up s leaf (cnt - j_)) * 7 + 4))), (0, .ref w0), (1, .ref h0), (2, .int (nI leaf))] := by have el : (iI ((((j_ : Nat) : Int) - 1) + (-1))) = (iI (((j_ - 1 : Nat) : Int) - 1)) := (congrArg iI (by omega)); rw [← el]; exact hl
        refine lv_goto (tgt := 28) hx hb dX3_trace_54 (by decide) ?_
        exact ih28 (j_ - 1) (upd f_ (j_ - 1) (nI (up s leaf (cnt - j_)))) (c (5 + (up s leaf (cnt - j_)) * 7 + 4)) H locs ls (⟨by omega, fun k h1 h2 => by by_cases e0 : k = j_ - 1; (rw [e0, pk_us]; congr 2; omega); (rw [pk_un e0]; exact hi2 k (by omega) h2), fun h => by rw [hR.xpa hW (up_pos hW _ _ hl0 (by omega)) (up_in hW _ _ hl0 (by omega)), ← up_s]; congr 2; omega⟩) (by omega) (hP.sub [0, 1, 2, 3] rfl) (hD.sub [0, 1, 2, 3] (by decide) rfl) hS (lv_sub hl [2, 3, 4, 0, 1] rfl)
  exact loop28 _ cnt pc (nI leaf) H locs ls (⟨by omega, fun k h1 h2 => absurd h1 (by omega), fun h => by rw [Nat.sub_self]; rfl⟩) (Nat.lt_succ_self _) (hP.sub [0, 1, 2, 3] rfl) (hD.sub [0, 1, 2, 3] (by decide) rfl) hS (lv_sub hl [2, 3, 4, 0, 1] rfl)
theorem hdX3_traceBranch : yX3_traceBranch.cls = RX3 ∧ yX3_traceBranch.cls ≠ "java/lang/invoke/MethodHandle" ∧ yX3_traceBranch.cls ≠ "java/lang/invoke/VarHandle" ∧ (parseMethodDescriptor yX3_traceBranch.desc).map (fun d => d.parameters.length) = some 2 := by decide +kernel
set_option maxHeartbeats 4000000 in
set_option maxRecDepth 100000 in
theorem kX3_traceBranch (ln : Launch) (dg : va_G) (tq : ClassId × ClassId) (w0 w1 : Nat) (len : Int32) (pc : Row) (h0 h1 : Nat) (c : Row) (s : Row) (hR : XR s c) (hW : WF s) (b : Nat) (hb0 : b < nB s) : MV ln yX3_traceBranch wsX3_traceBranch (rmm 2 47) dg tq [.ref w0, .ref h0, .int (nI b)] [(w0, .inr (3, [.ref w1, .int len])), (w1, .inl (tq.1, 60, .inl pc)), (h0, .inr (1, [.ref h1])), (h1, .inl (tq.1, 1473, .inl c))] (fun (u : Row) => ∀ k, k < mn s b → u k = nI (brE s b k)) (fun u => [(w0, .inr (3, [.ref w1, .int (nI (mn s b))])), (w1, .inl (tq.1, 60, .inl u)), (h0, .inr (1, [.ref h1])), (h1, .inl (tq.1, 1473, .inl c))]) := by
  refine MV.enter cX3_traceBranch 3 (by decide) rfl rfl (Nat.le_of_ble_eq_true rfl) ?_
  intro pP eE sS mM aA bB mT cC QQ AA hA hAT hret H locs hP hD hS ls hl
  obtain ⟨hx, hb, hml, hown, hts, hK, hN⟩ := hAT
  have hown : sS.vm.findClass RX3 = some mM.cls := hown
  have hl : lv_has ls 3 [(0, .ref w0), (1, .ref h0), (2, .int (nI b))] := hl
  have hn60 := hW.n60
  have hb10 := hW.b10
  have hs8 := hW.s8
  have hlf := hW.lfl hb0
  have hmn := hW.mnd hb0
  refine lv_aload_n hx hb dX3_traceBranch_0 rfl (lv_at hl 0 rfl) ?_
  refine lv_aload_n hx hb dX3_traceBranch_1 rfl (lv_at hl 1 rfl) ?_
  refine lv_aload_n hx hb dX3_traceBranch_2 rfl (lv_at hl 1 rfl) ?_
  refine lv_iload_n hx hb dX3_traceBranch_3 rfl (lv_at hl 2 rfl) ?_
  refine lv_iconst (v := (nI 0)) hx hb dX3_traceBranch_4 (by decide) ?_
  refine call_x (va_runV (As := [.int (nI b), .int (nI 0)]) (rest := [.ref h0, .ref w0]) ⟨hx, hb, hml, hown, hts⟩ (kX1_ofBranch ln dg tq (h0 := h0) (h1 := h1) (c := c) (e := b) (f := 0) (he := (by omega)) (hf := (by omega)) H.size) (cwV 2 hts gX3_traceBranch_X1_ofBranch rfl rfl rfl hdX1_ofBranch ⟨Nat.le_of_ble_eq_true rfl, Nat.le_of_ble_eq_true rfl⟩) (preVR hK hN hP [2, 3] rfl 2 rfl rfl [.int (nI b), .int (nI 0)]) rfl rfl hl.1 rfl (lv_room (Nat.le_of_ble_eq_true rfl)) dX3_traceBranch_5 ⟨Nat.le_refl _, Nat.le_refl _⟩) hP hS hA (fun H locs hP hS => ?_)
  refine r_top (show (c (425 + b * 5 + 0)) = (nI (lf s b)) from hR.LF hW (by omega)) ?_
  refine lv_aload_n hx hb dX3_traceBranch_8 rfl (lv_at hl 1 rfl) ?_
  refine lv_iload_n hx hb dX3_traceBranch_9 rfl (lv_at hl 2 rfl) ?_
  refine lv_iconst (v := (nI 1)) hx hb dX3_traceBranch_10 (by decide) ?_
  refine call_x (va_runV (As := [.int (nI b), .int (nI 1)]) (rest := [.int (nI (lf s b)), .ref h0, .ref w0]) ⟨hx, hb, hml, hown, hts⟩ (kX1_ofBranch ln dg tq (h0 := h0) (h1 := h1) (c := c) (e := b) (f := 1) (he := (by omega)) (hf := (by omega)) H.size) (cwV 2 hts gX3_traceBranch_X1_ofBranch rfl rfl rfl hdX1_ofBranch ⟨Nat.le_of_ble_eq_true rfl, Nat.le_of_ble_eq_true rfl⟩) (preVR hK hN hP [2, 3] rfl 2 rfl rfl [.int (nI b), .int (nI 1)]) rfl rfl hl.1 rfl (lv_room (Nat.le_of_ble_eq_true rfl)) dX3_traceBranch_11 ⟨Nat.le_refl _, Nat.le_refl _⟩) hP hS hA (fun H locs hP hS => ?_)
  refine r_top (show (c (425 + b * 5 + 1)) = (nI (mn s b)) from hR.MN hW (by omega)) ?_
  refine call_v (wr := []) (va_runV (As := [.ref h0, .int (nI (lf s b)), .int (nI (mn s b))]) (rest := []) ⟨hx, hb, hml, hown, hts⟩ (kX3_trace ln dg tq (w0 := w0) (w1 := w1) (len := len) (pc := pc) (h0 := h0) (h1 := h1) (c := c) (s := s) (hR := hR) (hW := hW) (leaf := lf s b) (cnt := mn s b) (hl0 := (by omega)) (hc0 := (by omega)) H.size) (cwV 3 hts gX3_traceBranch_X3_trace rfl rfl rfl hdX3_trace ⟨Nat.le_of_ble_eq_true rfl, Nat.le_of_ble_eq_true rfl⟩) (preVB hK hN hP hD [0, 1, 2, 3] rfl rfl rfl 0 rfl rfl [.ref h0, .int (nI (lf s b)), .int (nI (mn s b))]) rfl rfl hl.1 rfl (lv_room (Nat.le_of_ble_eq_true rfl)) dX3_traceBranch_14 ⟨Nat.le_refl _, Nat.le_refl _⟩) hP hD hS hA [0, 1, 2, 3] [] rfl rfl (by decide) (by decide) (fun u14 H locs hw14 hP hD hS => ?_)
  obtain ⟨g14, rfl⟩ : ∃ z, z = u14 := ⟨_, rfl⟩
  have hP : va_P dg vwCl [(w0, .inr (3, [.ref w1, .int (nI (mn s b))])), (w1, .inl (tq.1, 60, .inl g14)), (h0, .inr (1, [.ref h1])), (h1, .inl (tq.1, 1473, .inl c))] H := hP
  have hD : va_D AA [(w0, .inr (3, [.ref w1, .int (nI (mn s b))])), (w1, .inl (tq.1, 60, .inl g14)), (h0, .inr (1, [.ref h1])), (h1, .inl (tq.1, 1473, .inl c))] := hD
  exact hret (g14) H locs _ ls (hw14) (hP.sub [0, 1, 2, 3] rfl) (hD.sub [0, 1, 2, 3] (by decide) rfl) hS dX3_traceBranch_17
theorem hdX5_clear : yX5_clear.cls = RX5 ∧ yX5_clear.cls ≠ "java/lang/invoke/MethodHandle" ∧ yX5_clear.cls ≠ "java/lang/invoke/VarHandle" ∧ (parseMethodDescriptor yX5_clear.desc).map (fun d => d.parameters.length) = some 0 := by decide +kernel
set_option maxHeartbeats 4000000 in
set_option maxRecDepth 100000 in
theorem kX5_clear (ln : Launch) (dg : va_G) (tq : ClassId × ClassId) (u0 u1 : Nat) (f : Row) : MV ln yX5_clear wsX5_clear (rmm 1 23) dg tq [.ref u0] [(u0, .inr (5, [.ref u1])), (u1, .inl (tq.1, 6, .inl f))] (fun (u : Row) => SV u (fun _ => 0)) (fun u => [(u0, .inr (5, [.ref u1])), (u1, .inl (tq.1, 6, .inl u))]) := by
  refine MV.enter cX5_clear 1 (by decide) rfl rfl (Nat.le_of_ble_eq_true rfl) ?_
  intro pP eE sS mM aA bB mT cC QQ AA hA hAT hret H locs hP hD hS ls hl
  obtain ⟨hx, hb, hml, hown, hts, hK, hN⟩ := hAT
  have hown : sS.vm.findClass RX5 = some mM.cls := hown
  have hl : lv_has ls 1 [(0, .ref u0)] := hl
  have in5 : ∀ w ∈ u_ws RX5 TX5 1, w ∈ wsX5_clear := (fun _ h9 => List.mem_cons_of_mem _ (List.mem_append_right _ h9))
  have f9 := hts (.fieldLink RX5 9 "OrphanChain$Purse" "sums" "[I") (List.mem_of_getElem? (i := 1) rfl)
  refine lv_aload_n hx hb dX5_clear_0 rfl (lv_at hl 0 rfl) ?_
  refine va_get (D := dg) (ci := 5) (v := .ref u1) (C := RX5) (T := TX5) (N := 1) hx hb hts in5 hown hK hP 0 rfl rfl 0 (by decide) f9 (fun _ h9 => h9) rfl dX5_clear_1 ?_
  refine lv_iconst (v := (nI 0)) hx hb dX5_clear_4 (by decide) ?_
  refine call_v (wr := [(u0, .inr (5, [.ref u1]))]) (va_runS (As := [.ref u1, .int (nI 0)]) (rest := []) ⟨hx, hb, hml, hown, hts⟩ (kJ7_fill_53178 ln dg tq (a0 := u1) (n := 6) (f := f) (v := (nI 0)) (hn := (by omega)) H.size) (va_cwS 2 hts gX5_clear_J7_fill_53178 rfl rfl rfl hdJ7_fill_53178.2 ⟨Nat.le_of_ble_eq_true rfl, Nat.le_of_ble_eq_true rfl⟩) (preSB hK hN hP hD [1] rfl rfl rfl [.ref u1, .int (nI 0)]) rfl rfl hl.1 rfl (lv_room (Nat.le_of_ble_eq_true rfl)) dX5_clear_5 ⟨Nat.le_refl _, Nat.le_refl _⟩) hP hD hS hA [1] [0] rfl rfl (by decide) (by decide) (fun u5 H locs hw5 hP hD hS => ?_)
  obtain ⟨g5, rfl⟩ : ∃ z, z = u5 := ⟨_, rfl⟩
  have hP : va_P dg vwCl [(u0, .inr (5, [.ref u1])), (u1, .inl (tq.1, 6, .inl g5))] H := hP
  have hD : va_D AA [(u0, .inr (5, [.ref u1])), (u1, .inl (tq.1, 6, .inl g5))] := hD
  exact hret (g5) H locs _ ls (SV_0 hw5) (hP.sub [0, 1] rfl) (hD.sub [0, 1] (by decide) rfl) hS dX5_clear_8
theorem hdX5_sum : yX5_sum.cls = RX5 ∧ yX5_sum.cls ≠ "java/lang/invoke/MethodHandle" ∧ yX5_sum.cls ≠ "java/lang/invoke/VarHandle" ∧ (parseMethodDescriptor yX5_sum.desc).map (fun d => d.parameters.length) = some 1 := by decide +kernel
set_option maxHeartbeats 4000000 in
set_option maxRecDepth 100000 in
theorem kX5_sum (ln : Launch) (dg : va_G) (tq : ClassId × ClassId) (u0 u1 : Nat) (f : Row) (a : Nat) (ha : a < 6) : MR ln yX5_sum wsX5_sum (rmm 0 0) dg tq [.ref u0, .int (nI a)] [(u0, .inr (5, [.ref u1])), (u1, .inl (tq.1, 6, .inl f))] (fun r => r = (f a)) := by
  refine MR.enter cX5_sum 2 .int (by decide) rfl rfl (Nat.le_of_ble_eq_true rfl) ?_
  intro pP eE sS mM aA bB mT cC QQ AA hA hAT hret H locs hP hS ls hl
  obtain ⟨hx, hb, hml, hown, hts, hK, hN⟩ := hAT
  have hown : sS.vm.findClass RX5 = some mM.cls := hown
  have hl : lv_has ls 2 [(0, .ref u0), (1, .int (nI a))] := hl
  have in5 : ∀ w ∈ u_ws RX5 TX5 1, w ∈ wsX5_sum := (fun _ h9 => List.mem_cons_of_mem _ (List.mem_append_right _ h9))
  have f9 := hts (.fieldLink RX5 9 "OrphanChain$Purse" "sums" "[I") (List.mem_of_getElem? (i := 1) rfl)
  refine lv_iload_n hx hb dX5_sum_0 rfl (lv_at hl 1 rfl) ?_
  refine r_if_lt (tgt := 19) hx hb (nI_tI (by omega)) dX5_sum_1 (by decide) (fun c1 => False.elim (by omega)) (fun c1 => ?_)
  refine lv_iload_n hx hb dX5_sum_4 rfl (lv_at hl 1 rfl) ?_
  refine lv_bipush (v := (nI 6)) hx hb dX5_sum_5 (by decide) ?_
  refine r_icmp_ge (tgt := 19) hx hb (nI_tI (by omega)) (nI_tI (by omega)) dX5_sum_7 (by decide) (fun c7 => False.elim (by omega)) (fun c7 => ?_)
  refine lv_aload_n hx hb dX5_sum_10 rfl (lv_at hl 0 rfl) ?_
  refine va_get (D := dg) (ci := 5) (v := .ref u1) (C := RX5) (T := TX5) (N := 1) hx hb hts in5 hown hK hP 0 rfl rfl 0 (by decide) f9 (fun _ h9 => h9) rfl dX5_sum_11 ?_
  refine lv_iload_n hx hb dX5_sum_14 rfl (lv_at hl 1 rfl) ?_
  refine r_iald_n hx hb hK hP 1 rfl (k := a) (by omega) (by omega) dX5_sum_15 ?_
  refine lv_goto (tgt := 20) hx hb dX5_sum_16 (by decide) ?_
  exact hret (f a) H locs _ ls (rfl) rfl hS dX5_sum_20
theorem hdX5_total : yX5_total.cls = RX5 ∧ yX5_total.cls ≠ "java/lang/invoke/MethodHandle" ∧ yX5_total.cls ≠ "java/lang/invoke/VarHandle" ∧ (parseMethodDescriptor yX5_total.desc).map (fun d => d.parameters.length) = some 0 := by decide +kernel
set_option maxHeartbeats 4000000 in
set_option maxRecDepth 100000 in
theorem kX5_total (ln : Launch) (dg : va_G) (tq : ClassId × ClassId) (u0 u1 : Nat) (f : Row) : MR ln yX5_total wsX5_total (rmm 1 21) dg tq [.ref u0] [(u0, .inr (5, [.ref u1])), (u1, .inl (tq.1, 6, .inl f))] (fun r => r = (totF f 6)) := by
  refine MR.enter cX5_total 3 .int (by decide) rfl rfl (Nat.le_of_ble_eq_true rfl) ?_
  intro pP eE sS mM aA bB mT cC QQ AA hA hAT hret H locs hP hS ls hl
  obtain ⟨hx, hb, hml, hown, hts, hK, hN⟩ := hAT
  have hown : sS.vm.findClass RX5 = some mM.cls := hown
  have hl : lv_has ls 3 [(0, .ref u0)] := hl
  refine lv_iconst (v := (nI 0)) hx hb dX5_total_0 (by decide) ?_
  refine lv_istore_n (lv' := [(1, .int (nI 0)), (0, .ref u0)]) hx hb dX5_total_1 rfl hl (by decide) rfl (fun ls hl => ?_)
  refine lv_iconst (v := (nI 0)) hx hb dX5_total_2 (by decide) ?_
  refine lv_istore_n (lv' := [(2, .int (nI 0)), (1, .int (nI 0)), (0, .ref u0)]) hx hb dX5_total_3 rfl hl (by decide) rfl (fun ls hl => ?_)
  have loop4 : ∀ (fu : Nat) (i_ : Nat) (x_ : Int32) (H : Heap) (locs : List Loc) (ls : Array Slot), (x_ = totF f i_ ∧ i_ ≤ 6) → 6 - i_ < fu → va_P dg vwCl [(u0, .inr (5, [.ref u1])), (u1, .inl (tq.1, 6, .inl f))] H → va_S AA sS.heap H locs → lv_has ls 3 [(0, .ref u0), (1, .int x_), (2, .int (nI i_))] → W pP ln eE (rmm 1 21) sS mM aA bB mT cC H locs 0 0 QQ (F0 mM 4 ls []) := by
    intro fu
    induction fu with
    | zero => intro i_ x_ H locs ls _ hm; exact absurd hm (Nat.not_lt_zero _)
    | succ fu ih4 =>
      intro i_ x_ H locs ls hinv hm hP hS hl
      obtain ⟨hi1, hi2⟩ := hinv
      refine lv_iload_n hx hb dX5_total_4 rfl (lv_at hl 2 rfl) ?_
      refine lv_bipush (v := (nI 6)) hx hb dX5_total_5 (by decide) ?_
      refine r_icmp_ge (tgt := 24) hx hb (nI_tI (by omega)) (nI_tI (by omega)) dX5_total_7 (by decide) (fun c7 => ?_) (fun c7 => ?_)
      · skip
        refine lv_iload_n hx hb dX5_total_24 rfl (lv_at hl 1 rfl) ?_
        exact hret x_ H locs _ ls (by rw [hi1, show i_ = 6 by omega]) rfl hS dX5_total_25
      · skip
        refine lv_iload_n hx hb dX5_total_10 rfl (lv_at hl 1 rfl) ?_
        refine lv_aload_n hx hb dX5_total_11 rfl (lv_at hl 0 rfl) ?_
        refine lv_iload_n hx hb dX5_total_12 rfl (lv_at hl 2 rfl) ?_
        refine call_x (va_runV (As := [.int (nI i_)]) (rest := [.int x_]) ⟨hx, hb, hml, hown, hts⟩ (kX5_sum ln dg tq (u0 := u0) (u1 := u1) (f := f) (a := i_) (ha := (by omega)) H.size) (cwV 1 hts gX5_total_X5_sum rfl rfl rfl hdX5_sum ⟨Nat.le_of_ble_eq_true rfl, Nat.le_of_ble_eq_true rfl⟩) (preVR hK hN hP [0, 1] rfl 0 rfl rfl [.int (nI i_)]) rfl rfl hl.1 rfl (lv_room (Nat.le_of_ble_eq_true rfl)) dX5_total_13 ⟨Nat.le_refl _, Nat.le_refl _⟩) hP hS hA (fun H locs hP hS => ?_)
        refine lv_iadd hx hb dX5_total_16 ?_
        refine lv_istore_n (lv' := [(1, .int (x_ + (f i_))), (0, .ref u0), (2, .int (nI i_))]) hx hb dX5_total_17 rfl hl (by decide) rfl (fun ls hl => ?_)
        refine lv_iinc (v := (nI (i_ + 1))) (lv' := [(2, .int (nI (i_ + 1))), (1, .int (x_ + (f i_))), (0, .ref u0)]) hx hb dX5_total_18 hl (k := 2) rfl (nI_add _ _) (by decide) rfl (fun ls hl => ?_)
        refine lv_goto (tgt := 4) hx hb dX5_total_21 (by decide) ?_
        exact ih4 (i_ + 1) (x_ + (f i_)) H locs ls (⟨by rw [hi1]; rfl, by omega⟩) (by omega) (hP.sub [0, 1] rfl) hS (lv_sub hl [2, 1, 0] rfl)
  exact loop4 _ 0 (nI 0) H locs ls (⟨rfl, by omega⟩) (Nat.lt_succ_self _) (hP.sub [0, 1] rfl) hS (lv_sub hl [2, 1, 0] rfl)
theorem hdX5_affords : yX5_affords.cls = RX5 ∧ yX5_affords.cls ≠ "java/lang/invoke/MethodHandle" ∧ yX5_affords.cls ≠ "java/lang/invoke/VarHandle" ∧ (parseMethodDescriptor yX5_affords.desc).map (fun d => d.parameters.length) = some 3 := by decide +kernel
set_option maxHeartbeats 4000000 in
set_option maxRecDepth 100000 in
theorem kX5_affords (ln : Launch) (dg : va_G) (tq : ClassId × ClassId) (u0 u1 : Nat) (f : Row) (k : Int32) (a : Nat) (amt : Int32) (ha : a < 6) : MR ln yX5_affords wsX5_affords (rmm 1 21) dg tq [.ref u0, .int k, .int (nI a), .int amt] [(u0, .inr (5, [.ref u1])), (u1, .inl (tq.1, 6, .inl f))] (fun r => r = (bI (!decide (k.toInt = 2 ∨ k.toInt = 3) || decide (amt.toInt ≤ (f a).toInt)))) := by
  refine MR.enter cX5_affords 4 .boolean (by decide) rfl rfl (Nat.le_of_ble_eq_true rfl) ?_
  intro pP eE sS mM aA bB mT cC QQ AA hA hAT hret H locs hP hS ls hl
  obtain ⟨hx, hb, hml, hown, hts, hK, hN⟩ := hAT
  have hown : sS.vm.findClass RX5 = some mM.cls := hown
  have hl : lv_has ls 4 [(0, .ref u0), (1, .int k), (2, .int (nI a)), (3, .int amt)] := hl
  have st_X7_takes := hts (.static yX7_takes) (List.mem_of_getElem? (i := 1) rfl)
  have iRX7 := hts (.initialized RX7) (List.mem_of_getElem? (i := 2) rfl)
  refine lv_iload_n hx hb dX5_affords_0 rfl (lv_at hl 1 rfl) ?_
  refine call_x (va_runSN (As := [.int k]) (rest := []) ⟨hx, hb, hml, hown, hts⟩ (kX7_takes ln dg tq (v := k) H.size) ⟨va_cnB 1 hts gX5_affords_X7_takes_n44 rfl rfl rfl hN.2.2.1 iRX7 hdX7_takes.2 ⟨Nat.le_of_ble_eq_true rfl, Nat.le_of_ble_eq_true rfl⟩, st_X7_takes, trivial⟩ (preS0 hK hN [.int k]) rfl rfl hl.1 rfl (lv_room (Nat.le_of_ble_eq_true rfl)) dX5_affords_1 ⟨Nat.le_refl _, Nat.le_refl _⟩) hP hS hA (fun H locs hP hS => ?_)
  refine r_if_eq_b (tgt := 16) hx hb dX5_affords_4 (by decide) (fun c4 => ?_) (fun c4 => ?_)
  · have c4 := of_decide_eq_false c4
    refine lv_iconst (v := (nI 1)) hx hb dX5_affords_16 (by decide) ?_
    refine lv_goto (tgt := 21) hx hb dX5_affords_17 (by decide) ?_
    exact hret (nI 1) H locs _ ls (by (first | rw [decide_eq_true c4] | rw [decide_eq_false c4]); first | rfl | (simp only [Bool.not_true, Bool.false_or]; first | exact (bI_pos (by omega)).symm | exact (bI_neg (by omega)).symm)) rfl hS dX5_affords_21
  · have c4 := of_decide_eq_true c4
    refine lv_aload_n hx hb dX5_affords_7 rfl (lv_at hl 0 rfl) ?_
    refine lv_iload_n hx hb dX5_affords_8 rfl (lv_at hl 2 rfl) ?_
    refine call_x (va_runV (As := [.int (nI a)]) (rest := []) ⟨hx, hb, hml, hown, hts⟩ (kX5_sum ln dg tq (u0 := u0) (u1 := u1) (f := f) (a := a) (ha := (by omega)) H.size) (cwV 1 hts gX5_affords_X5_sum rfl rfl rfl hdX5_sum ⟨Nat.le_of_ble_eq_true rfl, Nat.le_of_ble_eq_true rfl⟩) (preVR hK hN hP [0, 1] rfl 0 rfl rfl [.int (nI a)]) rfl rfl hl.1 rfl (lv_room (Nat.le_of_ble_eq_true rfl)) dX5_affords_9 ⟨Nat.le_refl _, Nat.le_refl _⟩) hP hS hA (fun H locs hP hS => ?_)
    refine lv_iload_n hx hb dX5_affords_12 rfl (lv_at hl 3 rfl) ?_
    refine r_icmp_lt (tgt := 20) hx hb rfl rfl dX5_affords_13 (by decide) (fun c13 => ?_) (fun c13 => ?_)
    · skip
      refine lv_iconst (v := (nI 0)) hx hb dX5_affords_20 (by decide) ?_
      exact hret (nI 0) H locs _ ls (by (first | rw [decide_eq_true c4] | rw [decide_eq_false c4]); first | rfl | (simp only [Bool.not_true, Bool.false_or]; first | exact (bI_pos (by omega)).symm | exact (bI_neg (by omega)).symm)) rfl hS dX5_affords_21
    · skip
      refine lv_iconst (v := (nI 1)) hx hb dX5_affords_16 (by decide) ?_
      refine lv_goto (tgt := 21) hx hb dX5_affords_17 (by decide) ?_
      exact hret (nI 1) H locs _ ls (by (first | rw [decide_eq_true c4] | rw [decide_eq_false c4]); first | rfl | (simp only [Bool.not_true, Bool.false_or]; first | exact (bI_pos (by omega)).symm | exact (bI_neg (by omega)).symm)) rfl hS dX5_affords_21
theorem hdX5_change : yX5_change.cls = RX5 ∧ yX5_change.cls ≠ "java/lang/invoke/MethodHandle" ∧ yX5_change.cls ≠ "java/lang/invoke/VarHandle" ∧ (parseMethodDescriptor yX5_change.desc).map (fun d => d.parameters.length) = some 2 := by decide +kernel
set_option maxHeartbeats 4000000 in
set_option maxRecDepth 100000 in
theorem kX5_change (ln : Launch) (dg : va_G) (tq : ClassId × ClassId) (u0 u1 : Nat) (f : Row) (a : Nat) (y : Int32) (ha : a < 6) : MV ln yX5_change wsX5_change (rmm 0 0) dg tq [.ref u0, .int (nI a), .int y] [(u0, .inr (5, [.ref u1])), (u1, .inl (tq.1, 6, .inl f))] (fun (u : Unit) => True) (fun u => [(u0, .inr (5, [.ref u1])), (u1, .inl (tq.1, 6, .inl (upd f a (f a + y))))]) := by
  refine MV.enter cX5_change 3 (by decide) rfl rfl (Nat.le_of_ble_eq_true rfl) ?_
  intro pP eE sS mM aA bB mT cC QQ AA hA hAT hret H locs hP hD hS ls hl
  obtain ⟨hx, hb, hml, hown, hts, hK, hN⟩ := hAT
  have hown : sS.vm.findClass RX5 = some mM.cls := hown
  have hl : lv_has ls 3 [(0, .ref u0), (1, .int (nI a)), (2, .int y)] := hl
  have in5 : ∀ w ∈ u_ws RX5 TX5 1, w ∈ wsX5_change := (fun _ h9 => List.mem_cons_of_mem _ (List.mem_append_right _ h9))
  have f9 := hts (.fieldLink RX5 9 "OrphanChain$Purse" "sums" "[I") (List.mem_of_getElem? (i := 1) rfl)
  refine lv_iload_n hx hb dX5_change_0 rfl (lv_at hl 1 rfl) ?_
  refine r_if_lt (tgt := 20) hx hb (nI_tI (by omega)) dX5_change_1 (by decide) (fun c1 => False.elim (by omega)) (fun c1 => ?_)
  refine lv_iload_n hx hb dX5_change_4 rfl (lv_at hl 1 rfl) ?_
  refine lv_bipush (v := (nI 6)) hx hb dX5_change_5 (by decide) ?_
  refine r_icmp_ge (tgt := 20) hx hb (nI_tI (by omega)) (nI_tI (by omega)) dX5_change_7 (by decide) (fun c7 => False.elim (by omega)) (fun c7 => ?_)
  refine lv_aload_n hx hb dX5_change_10 rfl (lv_at hl 0 rfl) ?_
  refine va_get (D := dg) (ci := 5) (v := .ref u1) (C := RX5) (T := TX5) (N := 1) hx hb hts in5 hown hK hP 0 rfl rfl 0 (by decide) f9 (fun _ h9 => h9) rfl dX5_change_11 ?_
  refine lv_iload_n hx hb dX5_change_14 rfl (lv_at hl 1 rfl) ?_
  refine lv_dup2_11 hx hb dX5_change_15 rfl rfl ?_
  refine r_iald_n hx hb hK hP 1 rfl (k := a) (by omega) (by omega) dX5_change_16 ?_
  refine lv_iload_n hx hb dX5_change_17 rfl (lv_at hl 2 rfl) ?_
  refine lv_iadd hx hb dX5_change_18 ?_
  refine r_iast_n hx hb hK hP hD hS 1 rfl (k := a) (by omega) (by omega) dX5_change_19 (fun H locs hP hD hS => ?_)
  have hP : va_P dg vwCl [(u0, .inr (5, [.ref u1])), (u1, .inl (tq.1, 6, .inl (upd f a ((f a) + y))))] H := hP
  have hD : va_D AA [(u0, .inr (5, [.ref u1])), (u1, .inl (tq.1, 6, .inl (upd f a ((f a) + y))))] := hD
  exact hret (()) H locs _ ls (trivial) (hP.sub [0, 1] rfl) (hD.sub [0, 1] (by decide) rfl) hS dX5_change_20
theorem hdX5_add : yX5_add.cls = RX5 ∧ yX5_add.cls ≠ "java/lang/invoke/MethodHandle" ∧ yX5_add.cls ≠ "java/lang/invoke/VarHandle" ∧ (parseMethodDescriptor yX5_add.desc).map (fun d => d.parameters.length) = some 2 := by decide +kernel
set_option maxHeartbeats 4000000 in
set_option maxRecDepth 100000 in
theorem kX5_add (ln : Launch) (dg : va_G) (tq : ClassId × ClassId) (u0 u1 : Nat) (f : Row) (h0 h1 : Nat) (c : Row) (s : Row) (hR : XR s c) (hW : WF s) (v : Nat → Int) (hV : SV f v) (e : Nat) (he : e < nE s) : MV ln yX5_add wsX5_add (rmm 1 22) dg tq [.ref u0, .ref h0, .int (nI e)] [(u0, .inr (5, [.ref u1])), (u1, .inl (tq.1, 6, .inl f)), (h0, .inr (1, [.ref h1])), (h1, .inl (tq.1, 1473, .inl c))] (fun (u : Row) => SV u (addV s v e)) (fun u => [(u0, .inr (5, [.ref u1])), (u1, .inl (tq.1, 6, .inl u)), (h0, .inr (1, [.ref h1])), (h1, .inl (tq.1, 1473, .inl c))]) := by
  refine MV.enter cX5_add 5 (by decide) rfl rfl (Nat.le_of_ble_eq_true rfl) ?_
  intro pP eE sS mM aA bB mT cC QQ AA hA hAT hret H locs hP hD hS ls hl
  obtain ⟨hx, hb, hml, hown, hts, hK, hN⟩ := hAT
  have hown : sS.vm.findClass RX5 = some mM.cls := hown
  have hl : lv_has ls 5 [(0, .ref u0), (1, .ref h0), (2, .int (nI e))] := hl
  have st_X7_takes := hts (.static yX7_takes) (List.mem_of_getElem? (i := 7) rfl)
  have iRX7 := hts (.initialized RX7) (List.mem_of_getElem? (i := 8) rfl)
  have st_X7_brings := hts (.static yX7_brings) (List.mem_of_getElem? (i := 16) rfl)
  have hn60 := hW.n60
  have hb10 := hW.b10
  have hs8 := hW.s8
  have h1l := hW.a1l he
  have h2l := hW.a2l he
  refine lv_aload_n hx hb dX5_add_0 rfl (lv_at hl 1 rfl) ?_
  refine lv_iload_n hx hb dX5_add_1 rfl (lv_at hl 2 rfl) ?_
  refine lv_iconst (v := (nI 0)) hx hb dX5_add_2 (by decide) ?_
  refine call_x (va_runV (As := [.int (nI e), .int (nI 0)]) (rest := []) ⟨hx, hb, hml, hown, hts⟩ (kX1_ofEntry ln dg tq (h0 := h0) (h1 := h1) (c := c) (e := e) (f := 0) (he := (by omega)) (hf := (by omega)) H.size) (cwV 2 hts gX5_add_X1_ofEntry rfl rfl rfl hdX1_ofEntry ⟨Nat.le_of_ble_eq_true rfl, Nat.le_of_ble_eq_true rfl⟩) (preVR hK hN hP [2, 3] rfl 2 rfl rfl [.int (nI e), .int (nI 0)]) rfl rfl hl.1 rfl (lv_room (Nat.le_of_ble_eq_true rfl)) dX5_add_3 ⟨Nat.le_refl _, Nat.le_refl _⟩) hP hS hA (fun H locs hP hS => ?_)
  refine r_top (show (c (5 + e * 7 + 0)) = (me s e 1) from hR.xkd (by omega)) ?_
  refine lv_istore_n (lv' := [(3, .int (me s e 1)), (0, .ref u0), (1, .ref h0), (2, .int (nI e))]) hx hb dX5_add_6 rfl hl (by decide) rfl (fun ls hl => ?_)
  refine lv_aload_n hx hb dX5_add_7 rfl (lv_at hl 2 rfl) ?_
  refine lv_iload_n hx hb dX5_add_8 rfl (lv_at hl 3 rfl) ?_
  refine lv_iconst (v := (nI 3)) hx hb dX5_add_9 (by decide) ?_
  refine call_x (va_runV (As := [.int (nI e), .int (nI 3)]) (rest := []) ⟨hx, hb, hml, hown, hts⟩ (kX1_ofEntry ln dg tq (h0 := h0) (h1 := h1) (c := c) (e := e) (f := 3) (he := (by omega)) (hf := (by omega)) H.size) (cwV 2 hts gX5_add_X1_ofEntry rfl rfl rfl hdX1_ofEntry ⟨Nat.le_of_ble_eq_true rfl, Nat.le_of_ble_eq_true rfl⟩) (preVR hK hN hP [2, 3] rfl 2 rfl rfl [.int (nI e), .int (nI 3)]) rfl rfl hl.1 rfl (lv_room (Nat.le_of_ble_eq_true rfl)) dX5_add_10 ⟨Nat.le_refl _, Nat.le_refl _⟩) hP hS hA (fun H locs hP hS => ?_)
  refine r_top (show (c (5 + e * 7 + 3)) = (me s e 4) from hR.xam (by omega)) ?_
  refine lv_istore (lv' := [(4, .int (me s e 4)), (3, .int (me s e 1)), (0, .ref u0), (1, .ref h0), (2, .int (nI e))]) hx hb dX5_add_13 hl (by decide) rfl (fun ls hl => ?_)
  refine lv_iload_n hx hb dX5_add_15 rfl (lv_at hl 1 rfl) ?_
  refine call_x (va_runSN (As := [.int (me s e 1)]) (rest := []) ⟨hx, hb, hml, hown, hts⟩ (kX7_takes ln dg tq (v := (me s e 1)) H.size) ⟨va_cnB 1 hts gX5_add_X7_takes_n44 rfl rfl rfl hN.2.2.1 iRX7 hdX7_takes.2 ⟨Nat.le_of_ble_eq_true rfl, Nat.le_of_ble_eq_true rfl⟩, st_X7_takes, trivial⟩ (preS0 hK hN [.int (me s e 1)]) rfl rfl hl.1 rfl (lv_room (Nat.le_of_ble_eq_true rfl)) dX5_add_16 ⟨Nat.le_refl _, Nat.le_refl _⟩) hP hS hA (fun H locs hP hS => ?_)
  refine r_top (show (bI (decide ((me s e 1).toInt = 2 ∨ (me s e 1).toInt = 3))) = (bI (tk s e)) from rfl) ?_
  refine r_if_eq_b (tgt := 35) hx hb dX5_add_19 (by decide) (fun c19 => ?_) (fun c19 => ?_)
  · skip
    refine lv_iload_n hx hb dX5_add_35 rfl (lv_at hl 1 rfl) ?_
    refine call_x (va_runSN (As := [.int (me s e 1)]) (rest := []) ⟨hx, hb, hml, hown, hts⟩ (kX7_brings ln dg tq (v := (me s e 1)) H.size) ⟨va_cnB 1 hts gX5_add_X7_brings_n52 rfl rfl rfl hN.2.2.2.1 iRX7 hdX7_brings.2 ⟨Nat.le_of_ble_eq_true rfl, Nat.le_of_ble_eq_true rfl⟩, st_X7_brings, trivial⟩ (preS0 hK hN [.int (me s e 1)]) rfl rfl hl.1 rfl (lv_room (Nat.le_of_ble_eq_true rfl)) dX5_add_36 ⟨Nat.le_refl _, Nat.le_refl _⟩) hP hS hA (fun H locs hP hS => ?_)
    refine r_top (show (bI (decide (1 ≤ (me s e 1).toInt ∧ (me s e 1).toInt ≤ 3))) = (bI (bg s e)) from rfl) ?_
    refine r_if_eq_b (tgt := 54) hx hb dX5_add_39 (by decide) (fun c39 => ?_) (fun c39 => ?_)
    · skip
      exact hret (f) H locs _ ls (SV_ff hV c19 c39) (hP.sub [0, 1, 2, 3] rfl) (hD.sub [0, 1, 2, 3] (by decide) rfl) hS dX5_add_54
    · skip
      refine lv_aload_n hx hb dX5_add_42 rfl (lv_at hl 2 rfl) ?_
      refine lv_aload_n hx hb dX5_add_43 rfl (lv_at hl 3 rfl) ?_
      refine lv_iload_n hx hb dX5_add_44 rfl (lv_at hl 4 rfl) ?_
      refine lv_iconst (v := (nI 2)) hx hb dX5_add_45 (by decide) ?_
      refine call_x (va_runV (As := [.int (nI e), .int (nI 2)]) (rest := [.ref u0]) ⟨hx, hb, hml, hown, hts⟩ (kX1_ofEntry ln dg tq (h0 := h0) (h1 := h1) (c := c) (e := e) (f := 2) (he := (by omega)) (hf := (by omega)) H.size) (cwV 2 hts gX5_add_X1_ofEntry rfl rfl rfl hdX1_ofEntry ⟨Nat.le_of_ble_eq_true rfl, Nat.le_of_ble_eq_true rfl⟩) (preVR hK hN hP [2, 3] rfl 2 rfl rfl [.int (nI e), .int (nI 2)]) rfl rfl hl.1 rfl (lv_room (Nat.le_of_ble_eq_true rfl)) dX5_add_46 ⟨Nat.le_refl _, Nat.le_refl _⟩) hP hS hA (fun H locs hP hS => ?_)
      refine r_top (show (c (5 + e * 7 + 2)) = (nI (a2 s e)) from hR.A2 hW (by omega)) ?_
      refine lv_iload hx hb dX5_add_49 (lv_at hl 0 rfl) ?_
      refine call_v (wr := [(h0, .inr (1, [.ref h1])), (h1, .inl (tq.1, 1473, .inl c))]) (va_runV (As := [.int (nI (a2 s e)), .int (me s e 4)]) (rest := []) ⟨hx, hb, hml, hown, hts⟩ (kX5_change ln dg tq (u0 := u0) (u1 := u1) (f := f) (a := a2 s e) (y := (me s e 4)) (ha := (by omega)) H.size) (cwV 2 hts gX5_add_X5_change rfl rfl rfl hdX5_change ⟨Nat.le_of_ble_eq_true rfl, Nat.le_of_ble_eq_true rfl⟩) (preVB hK hN hP hD [0, 1] rfl rfl rfl 0 rfl rfl [.int (nI (a2 s e)), .int (me s e 4)]) rfl rfl hl.1 rfl (lv_room (Nat.le_of_ble_eq_true rfl)) dX5_add_51 ⟨Nat.le_refl _, Nat.le_refl _⟩) hP hD hS hA [0, 1] [2, 3] rfl rfl (by decide) (by decide) (fun u51 H locs hw51 hP hD hS => ?_)
      have hP : va_P dg vwCl [(h0, .inr (1, [.ref h1])), (h1, .inl (tq.1, 1473, .inl c)), (u0, .inr (5, [.ref u1])), (u1, .inl (tq.1, 6, .inl (upd f (a2 s e) (f (a2 s e) + (me s e 4)))))] H := hP
      have hD : va_D AA [(h0, .inr (1, [.ref h1])), (h1, .inl (tq.1, 1473, .inl c)), (u0, .inr (5, [.ref u1])), (u1, .inl (tq.1, 6, .inl (upd f (a2 s e) (f (a2 s e) + (me s e 4)))))] := hD
      exact hret ((upd f (a2 s e) (f (a2 s e) + (me s e 4)))) H locs _ ls (SV_ft hV c19 c39) (hP.sub [2, 3, 0, 1] rfl) (hD.sub [2, 3, 0, 1] (by decide) rfl) hS dX5_add_54
  · skip
    refine lv_aload_n hx hb dX5_add_22 rfl (lv_at hl 2 rfl) ?_
    refine lv_aload_n hx hb dX5_add_23 rfl (lv_at hl 3 rfl) ?_
    refine lv_iload_n hx hb dX5_add_24 rfl (lv_at hl 4 rfl) ?_
    refine lv_iconst (v := (nI 1)) hx hb dX5_add_25 (by decide) ?_
    refine call_x (va_runV (As := [.int (nI e), .int (nI 1)]) (rest := [.ref u0]) ⟨hx, hb, hml, hown, hts⟩ (kX1_ofEntry ln dg tq (h0 := h0) (h1 := h1) (c := c) (e := e) (f := 1) (he := (by omega)) (hf := (by omega)) H.size) (cwV 2 hts gX5_add_X1_ofEntry rfl rfl rfl hdX1_ofEntry ⟨Nat.le_of_ble_eq_true rfl, Nat.le_of_ble_eq_true rfl⟩) (preVR hK hN hP [2, 3] rfl 2 rfl rfl [.int (nI e), .int (nI 1)]) rfl rfl hl.1 rfl (lv_room (Nat.le_of_ble_eq_true rfl)) dX5_add_26 ⟨Nat.le_refl _, Nat.le_refl _⟩) hP hS hA (fun H locs hP hS => ?_)
    refine r_top (show (c (5 + e * 7 + 1)) = (nI (a1 s e)) from hR.A1 hW (by omega)) ?_
    refine lv_iload hx hb dX5_add_29 (lv_at hl 0 rfl) ?_
    refine lv_ineg hx hb dX5_add_31 ?_
    refine call_v (wr := [(h0, .inr (1, [.ref h1])), (h1, .inl (tq.1, 1473, .inl c))]) (va_runV (As := [.int (nI (a1 s e)), .int (- (me s e 4))]) (rest := []) ⟨hx, hb, hml, hown, hts⟩ (kX5_change ln dg tq (u0 := u0) (u1 := u1) (f := f) (a := a1 s e) (y := (- (me s e 4))) (ha := (by omega)) H.size) (cwV 2 hts gX5_add_X5_change rfl rfl rfl hdX5_change ⟨Nat.le_of_ble_eq_true rfl, Nat.le_of_ble_eq_true rfl⟩) (preVB hK hN hP hD [0, 1] rfl rfl rfl 0 rfl rfl [.int (nI (a1 s e)), .int (- (me s e 4))]) rfl rfl hl.1 rfl (lv_room (Nat.le_of_ble_eq_true rfl)) dX5_add_32 ⟨Nat.le_refl _, Nat.le_refl _⟩) hP hD hS hA [0, 1] [2, 3] rfl rfl (by decide) (by decide) (fun u32 H locs hw32 hP hD hS => ?_)
    have hP : va_P dg vwCl [(h0, .inr (1, [.ref h1])), (h1, .inl (tq.1, 1473, .inl c)), (u0, .inr (5, [.ref u1])), (u1, .inl (tq.1, 6, .inl (upd f (a1 s e) (f (a1 s e) + (- (me s e 4))))))] H := hP
    have hD : va_D AA [(h0, .inr (1, [.ref h1])), (h1, .inl (tq.1, 1473, .inl c)), (u0, .inr (5, [.ref u1])), (u1, .inl (tq.1, 6, .inl (upd f (a1 s e) (f (a1 s e) + (- (me s e 4))))))] := hD
    refine lv_iload_n hx hb dX5_add_35 rfl (lv_at hl 1 rfl) ?_
    refine call_x (va_runSN (As := [.int (me s e 1)]) (rest := []) ⟨hx, hb, hml, hown, hts⟩ (kX7_brings ln dg tq (v := (me s e 1)) H.size) ⟨va_cnB 1 hts gX5_add_X7_brings_n52 rfl rfl rfl hN.2.2.2.1 iRX7 hdX7_brings.2 ⟨Nat.le_of_ble_eq_true rfl, Nat.le_of_ble_eq_true rfl⟩, st_X7_brings, trivial⟩ (preS0 hK hN [.int (me s e 1)]) rfl rfl hl.1 rfl (lv_room (Nat.le_of_ble_eq_true rfl)) dX5_add_36 ⟨Nat.le_refl _, Nat.le_refl _⟩) hP hS hA (fun H locs hP hS => ?_)
    refine r_top (show (bI (decide (1 ≤ (me s e 1).toInt ∧ (me s e 1).toInt ≤ 3))) = (bI (bg s e)) from rfl) ?_
    refine r_if_eq_b (tgt := 54) hx hb dX5_add_39 (by decide) (fun c39 => ?_) (fun c39 => ?_)
    · skip
      exact hret ((upd f (a1 s e) (f (a1 s e) + (- (me s e 4))))) H locs _ ls (SV_tf hV c19 c39) (hP.sub [2, 3, 0, 1] rfl) (hD.sub [2, 3, 0, 1] (by decide) rfl) hS dX5_add_54
    · skip
      refine lv_aload_n hx hb dX5_add_42 rfl (lv_at hl 2 rfl) ?_
      refine lv_aload_n hx hb dX5_add_43 rfl (lv_at hl 3 rfl) ?_
      refine lv_iload_n hx hb dX5_add_44 rfl (lv_at hl 4 rfl) ?_
      refine lv_iconst (v := (nI 2)) hx hb dX5_add_45 (by decide) ?_
      refine call_x (va_runV (As := [.int (nI e), .int (nI 2)]) (rest := [.ref u0]) ⟨hx, hb, hml, hown, hts⟩ (kX1_ofEntry ln dg tq (h0 := h0) (h1 := h1) (c := c) (e := e) (f := 2) (he := (by omega)) (hf := (by omega)) H.size) (cwV 2 hts gX5_add_X1_ofEntry rfl rfl rfl hdX1_ofEntry ⟨Nat.le_of_ble_eq_true rfl, Nat.le_of_ble_eq_true rfl⟩) (preVR hK hN hP [0, 1] rfl 0 rfl rfl [.int (nI e), .int (nI 2)]) rfl rfl hl.1 rfl (lv_room (Nat.le_of_ble_eq_true rfl)) dX5_add_46 ⟨Nat.le_refl _, Nat.le_refl _⟩) hP hS hA (fun H locs hP hS => ?_)
      refine r_top (show (c (5 + e * 7 + 2)) = (nI (a2 s e)) from hR.A2 hW (by omega)) ?_
      refine lv_iload hx hb dX5_add_49 (lv_at hl 0 rfl) ?_
      refine call_v (wr := [(h0, .inr (1, [.ref h1])), (h1, .inl (tq.1, 1473, .inl c))]) (va_runV (As := [.int (nI (a2 s e)), .int (me s e 4)]) (rest := []) ⟨hx, hb, hml, hown, hts⟩ (kX5_change ln dg tq (u0 := u0) (u1 := u1) (f := upd f (a1 s e) (f (a1 s e) + (- (me s e 4)))) (a := a2 s e) (y := (me s e 4)) (ha := (by omega)) H.size) (cwV 2 hts gX5_add_X5_change rfl rfl rfl hdX5_change ⟨Nat.le_of_ble_eq_true rfl, Nat.le_of_ble_eq_true rfl⟩) (preVB hK hN hP hD [2, 3] rfl rfl rfl 2 rfl rfl [.int (nI (a2 s e)), .int (me s e 4)]) rfl rfl hl.1 rfl (lv_room (Nat.le_of_ble_eq_true rfl)) dX5_add_51 ⟨Nat.le_refl _, Nat.le_refl _⟩) hP hD hS hA [2, 3] [0, 1] rfl rfl (by decide) (by decide) (fun u51 H locs hw51 hP hD hS => ?_)
      have hP : va_P dg vwCl [(h0, .inr (1, [.ref h1])), (h1, .inl (tq.1, 1473, .inl c)), (u0, .inr (5, [.ref u1])), (u1, .inl (tq.1, 6, .inl (upd (upd f (a1 s e) (f (a1 s e) + (- (me s e 4)))) (a2 s e) ((upd f (a1 s e) (f (a1 s e) + (- (me s e 4)))) (a2 s e) + (me s e 4)))))] H := hP
      have hD : va_D AA [(h0, .inr (1, [.ref h1])), (h1, .inl (tq.1, 1473, .inl c)), (u0, .inr (5, [.ref u1])), (u1, .inl (tq.1, 6, .inl (upd (upd f (a1 s e) (f (a1 s e) + (- (me s e 4)))) (a2 s e) ((upd f (a1 s e) (f (a1 s e) + (- (me s e 4)))) (a2 s e) + (me s e 4)))))] := hD
      exact hret ((upd (upd f (a1 s e) (f (a1 s e) + (- (me s e 4)))) (a2 s e) ((upd f (a1 s e) (f (a1 s e) + (- (me s e 4)))) (a2 s e) + (me s e 4)))) H locs _ ls (SV_tt hV c19 c39) (hP.sub [2, 3, 0, 1] rfl) (hD.sub [2, 3, 0, 1] (by decide) rfl) hS dX5_add_54
theorem hdX5_fill : yX5_fill.cls = RX5 ∧ yX5_fill.cls ≠ "java/lang/invoke/MethodHandle" ∧ yX5_fill.cls ≠ "java/lang/invoke/VarHandle" ∧ (parseMethodDescriptor yX5_fill.desc).map (fun d => d.parameters.length) = some 2 := by decide +kernel
set_option maxHeartbeats 4000000 in
set_option maxRecDepth 100000 in
theorem kX5_fill (ln : Launch) (dg : va_G) (tq : ClassId × ClassId) (u0 u1 : Nat) (f : Row) (h0 h1 : Nat) (c : Row) (s : Row) (hR : XR s c) (hW : WF s) (leaf : Nat) (hl0 : leaf < nE s) : MV ln yX5_fill wsX5_fill (rmm 2 46) dg tq [.ref u0, .ref h0, .int (nI leaf)] [(u0, .inr (5, [.ref u1])), (u1, .inl (tq.1, 6, .inl f)), (h0, .inr (1, [.ref h1])), (h1, .inl (tq.1, 1473, .inl c))] (fun (u : Row) => SV u (bal s leaf)) (fun u => [(u0, .inr (5, [.ref u1])), (u1, .inl (tq.1, 6, .inl u)), (h0, .inr (1, [.ref h1])), (h1, .inl (tq.1, 1473, .inl c))]) := by
  refine MV.enter cX5_fill 5 (by decide) rfl rfl (Nat.le_of_ble_eq_true rfl) ?_
  intro pP eE sS mM aA bB mT cC QQ AA hA hAT hret H locs hP hD hS ls hl
  obtain ⟨hx, hb, hml, hown, hts, hK, hN⟩ := hAT
  have hown : sS.vm.findClass RX5 = some mM.cls := hown
  have hl : lv_has ls 5 [(0, .ref u0), (1, .ref h0), (2, .int (nI leaf))] := hl
  have hn60 := hW.n60
  have hb10 := hW.b10
  have hs8 := hW.s8
  refine lv_aload_n hx hb dX5_fill_0 rfl (lv_at hl 0 rfl) ?_
  refine call_v (wr := [(h0, .inr (1, [.ref h1])), (h1, .inl (tq.1, 1473, .inl c))]) (va_runV (As := []) (rest := []) ⟨hx, hb, hml, hown, hts⟩ (kX5_clear ln dg tq (u0 := u0) (u1 := u1) (f := f) H.size) (cwV 0 hts gX5_fill_X5_clear rfl rfl rfl hdX5_clear ⟨Nat.le_of_ble_eq_true rfl, Nat.le_of_ble_eq_true rfl⟩) (preVB hK hN hP hD [0, 1] rfl rfl rfl 0 rfl rfl []) rfl rfl hl.1 rfl (lv_room (Nat.le_of_ble_eq_true rfl)) dX5_fill_1 ⟨Nat.le_refl _, Nat.le_refl _⟩) hP hD hS hA [0, 1] [2, 3] rfl rfl (by decide) (by decide) (fun u1 H locs hw1 hP hD hS => ?_)
  obtain ⟨g1, rfl⟩ : ∃ z, z = u1 := ⟨_, rfl⟩
  have hP : va_P dg vwCl [(h0, .inr (1, [.ref h1])), (h1, .inl (tq.1, 1473, .inl c)), (u0, .inr (5, [.ref u1])), (u1, .inl (tq.1, 6, .inl g1))] H := hP
  have hD : va_D AA [(h0, .inr (1, [.ref h1])), (h1, .inl (tq.1, 1473, .inl c)), (u0, .inr (5, [.ref u1])), (u1, .inl (tq.1, 6, .inl g1))] := hD
  refine lv_iload_n hx hb dX5_fill_4 rfl (lv_at hl 2 rfl) ?_
  refine lv_istore_n (lv' := [(3, .int (nI leaf)), (0, .ref u0), (1, .ref h0), (2, .int (nI leaf))]) hx hb dX5_fill_5 rfl hl (by decide) rfl (fun ls hl => ?_)
  refine lv_iconst (v := (nI 0)) hx hb dX5_fill_6 (by decide) ?_
  refine lv_istore (lv' := [(4, .int (nI 0)), (3, .int (nI leaf)), (0, .ref u0), (1, .ref h0), (2, .int (nI leaf))]) hx hb dX5_fill_7 hl (by decide) rfl (fun ls hl => ?_)
  have loop9 : ∀ (fu : Nat) (at_ : Nat) (st_ : Nat) (f_ : Row) (v_ : Nat → Int) (H : Heap) (locs : List Loc) (ls : Array Slot), (at_ + st_ ≤ leaf ∧ SV f_ v_ ∧ (∀ a, v_ a + bal s at_ a = bal s leaf a)) → at_ < fu → va_P dg vwCl [(u0, .inr (5, [.ref u1])), (u1, .inl (tq.1, 6, .inl f_)), (h0, .inr (1, [.ref h1])), (h1, .inl (tq.1, 1473, .inl c))] H → va_D AA [(u0, .inr (5, [.ref u1])), (u1, .inl (tq.1, 6, .inl f_)), (h0, .inr (1, [.ref h1])), (h1, .inl (tq.1, 1473, .inl c))] → va_S AA sS.heap H locs → lv_has ls 5 [(0, .ref u0), (1, .ref h0), (2, .int (nI leaf)), (3, .int (nI at_)), (4, .int (nI st_))] → W pP ln eE (rmm 2 46) sS mM aA bB mT cC H locs 0 0 QQ (F0 mM 9 ls []) := by
    intro fu
    induction fu with
    | zero => intro at_ st_ f_ v_ H locs ls _ hm; exact absurd hm (Nat.not_lt_zero _)
    | succ fu ih9 =>
      intro at_ st_ f_ v_ H locs ls hinv hm hP hD hS hl
      obtain ⟨hi1, hV, hi3⟩ := hinv
      refine lv_iload hx hb dX5_fill_9 (lv_at hl 4 rfl) ?_
      refine lv_bipush (v := (nI 60)) hx hb dX5_fill_11 (by decide) ?_
      refine r_icmp_ge (tgt := 39) hx hb (nI_tI (by omega)) (nI_tI (by omega)) dX5_fill_13 (by decide) (fun c13 => False.elim (by omega)) (fun c13 => ?_)
      refine lv_iload_n hx hb dX5_fill_16 rfl (lv_at hl 3 rfl) ?_
      refine r_if_le (tgt := 39) hx hb (nI_tI (by omega)) dX5_fill_17 (by decide) (fun c17 => ?_) (fun c17 => ?_)
      · skip
        exact hret (f_) H locs _ ls (fun a ha => by rw [hV a ha]; congr 1; have h1 := hi3 a; rw [show at_ = 0 by omega, bal_0] at h1; omega) (hP.sub [0, 1, 2, 3] rfl) (hD.sub [0, 1, 2, 3] (by decide) rfl) hS dX5_fill_39
      · skip
        refine lv_aload_n hx hb dX5_fill_20 rfl (lv_at hl 0 rfl) ?_
        refine lv_aload_n hx hb dX5_fill_21 rfl (lv_at hl 1 rfl) ?_
        refine lv_iload_n hx hb dX5_fill_22 rfl (lv_at hl 3 rfl) ?_
        refine call_v (wr := []) (va_runV (As := [.ref h0, .int (nI at_)]) (rest := []) ⟨hx, hb, hml, hown, hts⟩ (kX5_add ln dg tq (u0 := u0) (u1 := u1) (f := f_) (h0 := h0) (h1 := h1) (c := c) (s := s) (hR := hR) (hW := hW) (v := v_) (hV := (by omega)) (e := at_) (he := (by omega)) H.size) (cwV 2 hts gX5_fill_X5_add rfl rfl rfl hdX5_add ⟨Nat.le_of_ble_eq_true rfl, Nat.le_of_ble_eq_true rfl⟩) (preVB hK hN hP hD [0, 1, 2, 3] rfl rfl rfl 0 rfl rfl [.ref h0, .int (nI at_)]) rfl rfl hl.1 rfl (lv_room (Nat.le_of_ble_eq_true rfl)) dX5_fill_23 ⟨Nat.le_refl _, Nat.le_refl _⟩) hP hD hS hA [0, 1, 2, 3] [] rfl rfl (by decide) (by decide) (fun u23 H locs hw23 hP hD hS => ?_)
        obtain ⟨g23, rfl⟩ : ∃ z, z = u23 := ⟨_, rfl⟩
        have hP : va_P dg vwCl [(u0, .inr (5, [.ref u1])), (u1, .inl (tq.1, 6, .inl g23)), (h0, .inr (1, [.ref h1])), (h1, .inl (tq.1, 1473, .inl c))] H := hP
        have hD : va_D AA [(u0, .inr (5, [.ref u1])), (u1, .inl (tq.1, 6, .inl g23)), (h0, .inr (1, [.ref h1])), (h1, .inl (tq.1, 1473, .inl c))] := hD
        refine lv_aload_n hx hb dX5_fill_26 rfl (lv_at hl 1 rfl) ?_
        refine lv_iload_n hx hb dX5_fill_27 rfl (lv_at hl 3 rfl) ?_
        refine lv_iconst (v := (nI 4)) hx hb dX5_fill_28 (by decide) ?_
        refine call_x (va_runV (As := [.int (nI at_), .int (nI 4)]) (rest := []) ⟨hx, hb, hml, hown, hts⟩ (kX1_ofEntry ln dg tq (h0 := h0) (h1 := h1) (c := c) (e := at_) (f := 4) (he := (by omega)) (hf := (by omega)) H.size) (cwV 2 hts gX5_fill_X1_ofEntry rfl rfl rfl hdX1_ofEntry ⟨Nat.le_of_ble_eq_true rfl, Nat.le_of_ble_eq_true rfl⟩) (preVR hK hN hP [2, 3] rfl 2 rfl rfl [.int (nI at_), .int (nI 4)]) rfl rfl hl.1 rfl (lv_room (Nat.le_of_ble_eq_true rfl)) dX5_fill_29 ⟨Nat.le_refl _, Nat.le_refl _⟩) hP hS hA (fun H locs hP hS => ?_)
        refine r_top (show (c (5 + at_ * 7 + 4)) = (nI (pa s at_)) from hR.xpa hW (by omega) (by omega)) ?_
        refine lv_istore_n (lv' := [(3, .int (nI (pa s at_))), (0, .ref u0), (1, .ref h0), (2, .int (nI leaf)), (4, .int (nI st_))]) hx hb dX5_fill_32 rfl hl (by decide) rfl (fun ls hl => ?_)
        refine lv_iinc (v := (nI (st_ + 1))) (lv' := [(4, .int (nI (st_ + 1))), (3, .int (nI (pa s at_))), (0, .ref u0), (1, .ref h0), (2, .int (nI leaf))]) hx hb dX5_fill_33 hl (k := 4) rfl (nI_add _ _) (by decide) rfl (fun ls hl => ?_)
        refine lv_goto (tgt := 9) hx hb dX5_fill_36 (by decide) ?_
        exact ih9 (pa s at_) (st_ + 1) g23 (addV s v_ at_) H locs ls (⟨by have hpl := hW.pl (e := at_) (by omega) (by omega); omega, hw23, fun a => by have h1 := hi3 a; have h2 := bal_s hW (e := at_) (by omega) (by omega) a; unfold addV; omega⟩) (by have hpl := hW.pl (e := at_) (by omega) (by omega); omega) (hP.sub [0, 1, 2, 3] rfl) (hD.sub [0, 1, 2, 3] (by decide) rfl) hS (lv_sub hl [2, 3, 4, 1, 0] rfl)
  exact loop9 _ leaf 0 g1 (fun _ => 0) H locs ls (⟨by omega, hw1, fun a => by omega⟩) (Nat.lt_succ_self _) (hP.sub [2, 3, 0, 1] rfl) (hD.sub [2, 3, 0, 1] (by decide) rfl) hS (lv_sub hl [2, 3, 4, 1, 0] rfl)
theorem hdX5_addIfAfforded : yX5_addIfAfforded.cls = RX5 ∧ yX5_addIfAfforded.cls ≠ "java/lang/invoke/MethodHandle" ∧ yX5_addIfAfforded.cls ≠ "java/lang/invoke/VarHandle" ∧ (parseMethodDescriptor yX5_addIfAfforded.desc).map (fun d => d.parameters.length) = some 2 := by decide +kernel
set_option maxHeartbeats 4000000 in
set_option maxRecDepth 100000 in
theorem kX5_addIfAfforded (ln : Launch) (dg : va_G) (tq : ClassId × ClassId) (u0 u1 : Nat) (f : Row) (h0 h1 : Nat) (c : Row) (s : Row) (hR : XR s c) (hW : WF s) (v : Nat → Int) (hV : SV f v) (N : Int) (hB : BV v N) (hn9 : N < 2000000000) (e : Nat) (he : e < nE s) : MW ln yX5_addIfAfforded wsX5_addIfAfforded (rmm 2 46) dg tq [.ref u0, .ref h0, .int (nI e)] [(u0, .inr (5, [.ref u1])), (u1, .inl (tq.1, 6, .inl f)), (h0, .inr (1, [.ref h1])), (h1, .inl (tq.1, 1473, .inl c))] (fun (r : Int32) (u : Row) => r = (bI (aff s v e)) ∧ (SV u (stp s v e))) (fun u => [(u0, .inr (5, [.ref u1])), (u1, .inl (tq.1, 6, .inl u)), (h0, .inr (1, [.ref h1])), (h1, .inl (tq.1, 1473, .inl c))]) := by
  refine MW.enter cX5_addIfAfforded 4 .boolean (by decide) rfl rfl (Nat.le_of_ble_eq_true rfl) ?_
  intro pP eE sS mM aA bB mT cC QQ AA hA hAT hret H locs hP hD hS ls hl
  obtain ⟨hx, hb, hml, hown, hts, hK, hN⟩ := hAT
  have hown : sS.vm.findClass RX5 = some mM.cls := hown
  have hl : lv_has ls 4 [(0, .ref u0), (1, .ref h0), (2, .int (nI e))] := hl
  have hn60 := hW.n60
  have hb10 := hW.b10
  have hs8 := hW.s8
  have h1l := hW.a1l he
  have h2l := hW.a2l he
  refine lv_aload_n hx hb dX5_addIfAfforded_0 rfl (lv_at hl 1 rfl) ?_
  refine lv_iload_n hx hb dX5_addIfAfforded_1 rfl (lv_at hl 2 rfl) ?_
  refine lv_iconst (v := (nI 1)) hx hb dX5_addIfAfforded_2 (by decide) ?_
  refine call_x (va_runV (As := [.int (nI e), .int (nI 1)]) (rest := []) ⟨hx, hb, hml, hown, hts⟩ (kX1_ofEntry ln dg tq (h0 := h0) (h1 := h1) (c := c) (e := e) (f := 1) (he := (by omega)) (hf := (by omega)) H.size) (cwV 2 hts gX5_addIfAfforded_X1_ofEntry rfl rfl rfl hdX1_ofEntry ⟨Nat.le_of_ble_eq_true rfl, Nat.le_of_ble_eq_true rfl⟩) (preVR hK hN hP [2, 3] rfl 2 rfl rfl [.int (nI e), .int (nI 1)]) rfl rfl hl.1 rfl (lv_room (Nat.le_of_ble_eq_true rfl)) dX5_addIfAfforded_3 ⟨Nat.le_refl _, Nat.le_refl _⟩) hP hS hA (fun H locs hP hS => ?_)
  refine r_top (show (c (5 + e * 7 + 1)) = (nI (a1 s e)) from hR.A1 hW (by omega)) ?_
  refine lv_istore_n (lv' := [(3, .int (nI (a1 s e))), (0, .ref u0), (1, .ref h0), (2, .int (nI e))]) hx hb dX5_addIfAfforded_6 rfl hl (by decide) rfl (fun ls hl => ?_)
  refine lv_aload_n hx hb dX5_addIfAfforded_7 rfl (lv_at hl 1 rfl) ?_
  refine lv_aload_n hx hb dX5_addIfAfforded_8 rfl (lv_at hl 2 rfl) ?_
  refine lv_iload_n hx hb dX5_addIfAfforded_9 rfl (lv_at hl 3 rfl) ?_
  refine lv_iconst (v := (nI 0)) hx hb dX5_addIfAfforded_10 (by decide) ?_
  refine call_x (va_runV (As := [.int (nI e), .int (nI 0)]) (rest := [.ref u0]) ⟨hx, hb, hml, hown, hts⟩ (kX1_ofEntry ln dg tq (h0 := h0) (h1 := h1) (c := c) (e := e) (f := 0) (he := (by omega)) (hf := (by omega)) H.size) (cwV 2 hts gX5_addIfAfforded_X1_ofEntry rfl rfl rfl hdX1_ofEntry ⟨Nat.le_of_ble_eq_true rfl, Nat.le_of_ble_eq_true rfl⟩) (preVR hK hN hP [2, 3] rfl 2 rfl rfl [.int (nI e), .int (nI 0)]) rfl rfl hl.1 rfl (lv_room (Nat.le_of_ble_eq_true rfl)) dX5_addIfAfforded_11 ⟨Nat.le_refl _, Nat.le_refl _⟩) hP hS hA (fun H locs hP hS => ?_)
  refine r_top (show (c (5 + e * 7 + 0)) = (me s e 1) from hR.xkd (by omega)) ?_
  refine lv_iload_n hx hb dX5_addIfAfforded_14 rfl (lv_at hl 0 rfl) ?_
  refine lv_aload_n hx hb dX5_addIfAfforded_15 rfl (lv_at hl 2 rfl) ?_
  refine lv_iload_n hx hb dX5_addIfAfforded_16 rfl (lv_at hl 3 rfl) ?_
  refine lv_iconst (v := (nI 3)) hx hb dX5_addIfAfforded_17 (by decide) ?_
  refine call_x (va_runV (As := [.int (nI e), .int (nI 3)]) (rest := [.int (nI (a1 s e)), .int (me s e 1), .ref u0]) ⟨hx, hb, hml, hown, hts⟩ (kX1_ofEntry ln dg tq (h0 := h0) (h1 := h1) (c := c) (e := e) (f := 3) (he := (by omega)) (hf := (by omega)) H.size) (cwV 2 hts gX5_addIfAfforded_X1_ofEntry rfl rfl rfl hdX1_ofEntry ⟨Nat.le_of_ble_eq_true rfl, Nat.le_of_ble_eq_true rfl⟩) (preVR hK hN hP [2, 3] rfl 2 rfl rfl [.int (nI e), .int (nI 3)]) rfl rfl hl.1 rfl (lv_room (Nat.le_of_ble_eq_true rfl)) dX5_addIfAfforded_18 ⟨Nat.le_refl _, Nat.le_refl _⟩) hP hS hA (fun H locs hP hS => ?_)
  refine r_top (show (c (5 + e * 7 + 3)) = (me s e 4) from hR.xam (by omega)) ?_
  refine call_x (va_runV (As := [.int (me s e 1), .int (nI (a1 s e)), .int (me s e 4)]) (rest := []) ⟨hx, hb, hml, hown, hts⟩ (kX5_affords ln dg tq (u0 := u0) (u1 := u1) (f := f) (k := (me s e 1)) (a := a1 s e) (amt := (me s e 4)) (ha := (by omega)) H.size) (cwV 3 hts gX5_addIfAfforded_X5_affords rfl rfl rfl hdX5_affords ⟨Nat.le_of_ble_eq_true rfl, Nat.le_of_ble_eq_true rfl⟩) (preVR hK hN hP [0, 1] rfl 0 rfl rfl [.int (me s e 1), .int (nI (a1 s e)), .int (me s e 4)]) rfl rfl hl.1 rfl (lv_room (Nat.le_of_ble_eq_true rfl)) dX5_addIfAfforded_21 ⟨Nat.le_refl _, Nat.le_refl _⟩) hP hS hA (fun H locs hP hS => ?_)
  refine r_top (show (bI (!decide ((me s e 1).toInt = 2 ∨ (me s e 1).toInt = 3) || decide ((me s e 4).toInt ≤ (f (a1 s e)).toInt))) = (bI (aff s v e)) from congrArg bI (aff_of hW he hV hB (by omega))) ?_
  refine r_if_ne_b (tgt := 29) hx hb dX5_addIfAfforded_24 (by decide) (fun c24 => ?_) (fun c24 => ?_)
  · skip
    refine lv_aload_n hx hb dX5_addIfAfforded_29 rfl (lv_at hl 1 rfl) ?_
    refine lv_aload_n hx hb dX5_addIfAfforded_30 rfl (lv_at hl 2 rfl) ?_
    refine lv_iload_n hx hb dX5_addIfAfforded_31 rfl (lv_at hl 3 rfl) ?_
    refine call_v (wr := []) (va_runV (As := [.ref h0, .int (nI e)]) (rest := []) ⟨hx, hb, hml, hown, hts⟩ (kX5_add ln dg tq (u0 := u0) (u1 := u1) (f := f) (h0 := h0) (h1 := h1) (c := c) (s := s) (hR := hR) (hW := hW) (v := v) (hV := hV) (e := e) (he := (by omega)) H.size) (cwV 2 hts gX5_addIfAfforded_X5_add rfl rfl rfl hdX5_add ⟨Nat.le_of_ble_eq_true rfl, Nat.le_of_ble_eq_true rfl⟩) (preVB hK hN hP hD [0, 1, 2, 3] rfl rfl rfl 0 rfl rfl [.ref h0, .int (nI e)]) rfl rfl hl.1 rfl (lv_room (Nat.le_of_ble_eq_true rfl)) dX5_addIfAfforded_32 ⟨Nat.le_refl _, Nat.le_refl _⟩) hP hD hS hA [0, 1, 2, 3] [] rfl rfl (by decide) (by decide) (fun u32 H locs hw32 hP hD hS => ?_)
    obtain ⟨g32, rfl⟩ : ∃ z, z = u32 := ⟨_, rfl⟩
    have hP : va_P dg vwCl [(u0, .inr (5, [.ref u1])), (u1, .inl (tq.1, 6, .inl g32)), (h0, .inr (1, [.ref h1])), (h1, .inl (tq.1, 1473, .inl c))] H := hP
    have hD : va_D AA [(u0, .inr (5, [.ref u1])), (u1, .inl (tq.1, 6, .inl g32)), (h0, .inr (1, [.ref h1])), (h1, .inl (tq.1, 1473, .inl c))] := hD
    refine lv_iconst (v := (nI 1)) hx hb dX5_addIfAfforded_35 (by decide) ?_
    exact hret (nI 1) (g32) H locs _ ls (⟨by rw [c24]; rfl, by unfold stp; rw [c24]; exact hw32⟩) rfl (hP.sub [0, 1, 2, 3] rfl) (hD.sub [0, 1, 2, 3] (by decide) rfl) hS dX5_addIfAfforded_36
  · skip
    refine lv_iconst (v := (nI 0)) hx hb dX5_addIfAfforded_27 (by decide) ?_
    exact hret (nI 0) (f) H locs _ ls (⟨by rw [c24]; rfl, by unfold stp; rw [c24]; exact hV⟩) rfl (hP.sub [0, 1, 2, 3] rfl) (hD.sub [0, 1, 2, 3] (by decide) rfl) hS dX5_addIfAfforded_28
theorem hdX5_addAfforded : yX5_addAfforded.cls = RX5 ∧ yX5_addAfforded.cls ≠ "java/lang/invoke/MethodHandle" ∧ yX5_addAfforded.cls ≠ "java/lang/invoke/VarHandle" ∧ (parseMethodDescriptor yX5_addAfforded.desc).map (fun d => d.parameters.length) = some 2 := by decide +kernel
set_option maxHeartbeats 4000000 in
set_option maxRecDepth 100000 in
theorem kX5_addAfforded (ln : Launch) (dg : va_G) (tq : ClassId × ClassId) (u0 u1 : Nat) (f : Row) (h0 h1 : Nat) (c : Row) (s : Row) (hR : XR s c) (hW : WF s) (v : Nat → Int) (hV : SV f v) (N : Int) (hB : BV v N) (hn9 : N < 1000000000) (len : Nat) (w0 w1 : Nat) (pc : Row) (E : Nat → Nat) (hE : ∀ k, k < len → pc k = nI (E k) ∧ E k < nE s) (hlen : len ≤ 60) : MW ln yX5_addAfforded wsX5_addAfforded (rmm 3 69) dg tq [.ref u0, .ref h0, .ref w0] [(u0, .inr (5, [.ref u1])), (u1, .inl (tq.1, 6, .inl f)), (h0, .inr (1, [.ref h1])), (h1, .inl (tq.1, 1473, .inl c)), (w0, .inr (3, [.ref w1, .int (nI len)])), (w1, .inl (tq.1, 60, .inl pc))] (fun (r : Int32) (u : Row) => r = (nI (trN s v E len)) ∧ (SV u (trV s v E len))) (fun u => [(u0, .inr (5, [.ref u1])), (u1, .inl (tq.1, 6, .inl u)), (h0, .inr (1, [.ref h1])), (h1, .inl (tq.1, 1473, .inl c)), (w0, .inr (3, [.ref w1, .int (nI len)])), (w1, .inl (tq.1, 60, .inl pc))]) := by
  refine MW.enter cX5_addAfforded 5 .int (by decide) rfl rfl (Nat.le_of_ble_eq_true rfl) ?_
  intro pP eE sS mM aA bB mT cC QQ AA hA hAT hret H locs hP hD hS ls hl
  obtain ⟨hx, hb, hml, hown, hts, hK, hN⟩ := hAT
  have hown : sS.vm.findClass RX5 = some mM.cls := hown
  have hl : lv_has ls 5 [(0, .ref u0), (1, .ref h0), (2, .ref w0)] := hl
  have hn60 := hW.n60
  have hb10 := hW.b10
  have hs8 := hW.s8
  refine lv_iconst (v := (nI 0)) hx hb dX5_addAfforded_0 (by decide) ?_
  refine lv_istore_n (lv' := [(3, .int (nI 0)), (0, .ref u0), (1, .ref h0), (2, .ref w0)]) hx hb dX5_addAfforded_1 rfl hl (by decide) rfl (fun ls hl => ?_)
  refine lv_iconst (v := (nI 0)) hx hb dX5_addAfforded_2 (by decide) ?_
  refine lv_istore (lv' := [(4, .int (nI 0)), (3, .int (nI 0)), (0, .ref u0), (1, .ref h0), (2, .ref w0)]) hx hb dX5_addAfforded_3 hl (by decide) rfl (fun ls hl => ?_)
  have loop5 : ∀ (fu : Nat) (i_ : Nat) (k_ : Nat) (f_ : Row) (H : Heap) (locs : List Loc) (ls : Array Slot), (i_ ≤ len ∧ k_ = trN s v E i_ ∧ SV f_ (trV s v E i_)) → len - i_ < fu → va_P dg vwCl [(u0, .inr (5, [.ref u1])), (u1, .inl (tq.1, 6, .inl f_)), (h0, .inr (1, [.ref h1])), (h1, .inl (tq.1, 1473, .inl c)), (w0, .inr (3, [.ref w1, .int (nI len)])), (w1, .inl (tq.1, 60, .inl pc))] H → va_D AA [(u0, .inr (5, [.ref u1])), (u1, .inl (tq.1, 6, .inl f_)), (h0, .inr (1, [.ref h1])), (h1, .inl (tq.1, 1473, .inl c)), (w0, .inr (3, [.ref w1, .int (nI len)])), (w1, .inl (tq.1, 60, .inl pc))] → va_S AA sS.heap H locs → lv_has ls 5 [(0, .ref u0), (1, .ref h0), (2, .ref w0), (3, .int (nI k_)), (4, .int (nI i_))] → W pP ln eE (rmm 3 69) sS mM aA bB mT cC H locs 0 0 QQ (F0 mM 5 ls []) := by
    intro fu
    induction fu with
    | zero => intro i_ k_ f_ H locs ls _ hm; exact absurd hm (Nat.not_lt_zero _)
    | succ fu ih5 =>
      intro i_ k_ f_ H locs ls hinv hm hP hD hS hl
      obtain ⟨hi1, hi2, hV2⟩ := hinv
      refine lv_iload hx hb dX5_addAfforded_5 (lv_at hl 4 rfl) ?_
      refine lv_aload_n hx hb dX5_addAfforded_7 rfl (lv_at hl 2 rfl) ?_
      refine call_x (va_runV (As := []) (rest := [.int (nI i_)]) ⟨hx, hb, hml, hown, hts⟩ (kX3_length ln dg tq (w0 := w0) (w1 := w1) (len := len) (pc := pc) H.size) (cwV 0 hts gX5_addAfforded_X3_length rfl rfl rfl hdX3_length ⟨Nat.le_of_ble_eq_true rfl, Nat.le_of_ble_eq_true rfl⟩) (preVR hK hN hP [4, 5] rfl 4 rfl rfl []) rfl rfl hl.1 rfl (lv_room (Nat.le_of_ble_eq_true rfl)) dX5_addAfforded_8 ⟨Nat.le_refl _, Nat.le_refl _⟩) hP hS hA (fun H locs hP hS => ?_)
      refine r_icmp_ge (tgt := 37) hx hb (nI_tI (by omega)) (nI_tI (by omega)) dX5_addAfforded_11 (by decide) (fun c11 => ?_) (fun c11 => ?_)
      · skip
        refine lv_iload_n hx hb dX5_addAfforded_37 rfl (lv_at hl 3 rfl) ?_
        exact hret (nI k_) (f_) H locs _ ls (by rw [show len = i_ by omega]; exact ⟨by rw [hi2], hV2⟩) rfl (hP.sub [0, 1, 2, 3, 4, 5] rfl) (hD.sub [0, 1, 2, 3, 4, 5] (by decide) rfl) hS dX5_addAfforded_38
      · skip
        obtain ⟨hE1, hE2⟩ := hE i_ (by omega)
        have hB2 := trV_bd hW hB (E := E) (j := i_) (fun k hk => (hE k (by omega)).2)
        refine lv_aload_n hx hb dX5_addAfforded_14 rfl (lv_at hl 0 rfl) ?_
        refine lv_aload_n hx hb dX5_addAfforded_15 rfl (lv_at hl 1 rfl) ?_
        refine lv_aload_n hx hb dX5_addAfforded_16 rfl (lv_at hl 2 rfl) ?_
        refine lv_iload hx hb dX5_addAfforded_17 (lv_at hl 4 rfl) ?_
        refine call_x (va_runV (As := [.int (nI i_)]) (rest := [.ref h0, .ref u0]) ⟨hx, hb, hml, hown, hts⟩ (kX3_at ln dg tq (w0 := w0) (w1 := w1) (len := len) (pc := pc) (k := i_) (hk := (by omega)) (hlen := (by omega)) H.size) (cwV 1 hts gX5_addAfforded_X3_at rfl rfl rfl hdX3_at ⟨Nat.le_of_ble_eq_true rfl, Nat.le_of_ble_eq_true rfl⟩) (preVR hK hN hP [4, 5] rfl 4 rfl rfl [.int (nI i_)]) rfl rfl hl.1 rfl (lv_room (Nat.le_of_ble_eq_true rfl)) dX5_addAfforded_19 ⟨Nat.le_refl _, Nat.le_refl _⟩) hP hS hA (fun H locs hP hS => ?_)
        refine r_top (show (pc i_) = (nI (E i_)) from hE1) ?_
        refine call_w (wr := [(w0, .inr (3, [.ref w1, .int (nI len)])), (w1, .inl (tq.1, 60, .inl pc))]) (va_runV (As := [.ref h0, .int (nI (E i_))]) (rest := []) ⟨hx, hb, hml, hown, hts⟩ (kX5_addIfAfforded ln dg tq (u0 := u0) (u1 := u1) (f := f_) (h0 := h0) (h1 := h1) (c := c) (s := s) (hR := hR) (hW := hW) (v := trV s v E i_) (hV := hV2) (N := N + 999 * i_) (hB := hB2) (hn9 := (by omega)) (e := E i_) (he := (by omega)) H.size) (cwV 2 hts gX5_addAfforded_X5_addIfAfforded rfl rfl rfl hdX5_addIfAfforded ⟨Nat.le_of_ble_eq_true rfl, Nat.le_of_ble_eq_true rfl⟩) (preVB hK hN hP hD [0, 1, 2, 3] rfl rfl rfl 0 rfl rfl [.ref h0, .int (nI (E i_))]) rfl rfl hl.1 rfl (lv_room (Nat.le_of_ble_eq_true rfl)) dX5_addAfforded_22 ⟨Nat.le_refl _, Nat.le_refl _⟩) hP hD hS hA [0, 1, 2, 3] [4, 5] rfl rfl (by decide) (by decide) (fun r22 u22 H locs hw22 hP hD hS => ?_)
        obtain ⟨g22, rfl⟩ : ∃ z, z = u22 := ⟨_, rfl⟩
        have hP : va_P dg vwCl [(w0, .inr (3, [.ref w1, .int (nI len)])), (w1, .inl (tq.1, 60, .inl pc)), (u0, .inr (5, [.ref u1])), (u1, .inl (tq.1, 6, .inl g22)), (h0, .inr (1, [.ref h1])), (h1, .inl (tq.1, 1473, .inl c))] H := hP
        have hD : va_D AA [(w0, .inr (3, [.ref w1, .int (nI len)])), (w1, .inl (tq.1, 60, .inl pc)), (u0, .inr (5, [.ref u1])), (u1, .inl (tq.1, 6, .inl g22)), (h0, .inr (1, [.ref h1])), (h1, .inl (tq.1, 1473, .inl c))] := hD
        obtain ⟨hr22, hw22⟩ := hw22
        subst hr22
        refine r_if_eq_b (tgt := 31) hx hb dX5_addAfforded_25 (by decide) (fun c25 => ?_) (fun c25 => ?_)
        · skip
          refine lv_iinc (v := (nI (i_ + 1))) (lv' := [(4, .int (nI (i_ + 1))), (0, .ref u0), (1, .ref h0), (2, .ref w0), (3, .int (nI k_))]) hx hb dX5_addAfforded_31 hl (k := 4) rfl (nI_add _ _) (by decide) rfl (fun ls hl => ?_)
          refine lv_goto (tgt := 5) hx hb dX5_addAfforded_34 (by decide) ?_
          exact ih5 (i_ + 1) k_ g22 H locs ls (⟨by omega, by rw [trN, c25]; simp [hi2], hw22⟩) (by omega) (hP.sub [2, 3, 4, 5, 0, 1] rfl) (hD.sub [2, 3, 4, 5, 0, 1] (by decide) rfl) hS (lv_sub hl [1, 2, 3, 4, 0] rfl)
        · skip
          refine lv_iinc (v := (nI (k_ + 1))) (lv' := [(3, .int (nI (k_ + 1))), (0, .ref u0), (1, .ref h0), (2, .ref w0), (4, .int (nI i_))]) hx hb dX5_addAfforded_28 hl (k := 3) rfl (nI_add _ _) (by decide) rfl (fun ls hl => ?_)
          refine lv_iinc (v := (nI (i_ + 1))) (lv' := [(4, .int (nI (i_ + 1))), (3, .int (nI (k_ + 1))), (0, .ref u0), (1, .ref h0), (2, .ref w0)]) hx hb dX5_addAfforded_31 hl (k := 4) rfl (nI_add _ _) (by decide) rfl (fun ls hl => ?_)
          refine lv_goto (tgt := 5) hx hb dX5_addAfforded_34 (by decide) ?_
          exact ih5 (i_ + 1) (k_ + 1) g22 H locs ls (⟨by omega, by rw [trN, c25]; simp [hi2], hw22⟩) (by omega) (hP.sub [2, 3, 4, 5, 0, 1] rfl) (hD.sub [2, 3, 4, 5, 0, 1] (by decide) rfl) hS (lv_sub hl [2, 3, 4, 1, 0] rfl)
  exact loop5 _ 0 0 f H locs ls (⟨by omega, rfl, hV⟩) (Nat.lt_succ_self _) (hP.sub [0, 1, 2, 3, 4, 5] rfl) (hD.sub [0, 1, 2, 3, 4, 5] (by decide) rfl) hS (lv_sub hl [2, 3, 4, 1, 0] rfl)
