theorem hdJ7_fill_53178 : yJ7_fill_53178.cls = RJ7 ∧ yJ7_fill_53178.cls ≠ "java/lang/invoke/MethodHandle" ∧ yJ7_fill_53178.cls ≠ "java/lang/invoke/VarHandle" ∧ (parseMethodDescriptor yJ7_fill_53178.desc).map (fun d => d.parameters.length) = some 2 := by decide +kernel
set_option maxHeartbeats 4000000 in
set_option maxRecDepth 100000 in
theorem kJ7_fill_53178 (ln : Launch) (dg : va_G) (tq : ClassId × ClassId) (a0 n : Nat) (f : Row) (v : Int32) (hn : n < 2147483648) : MV ln yJ7_fill_53178 wsJ7_fill_53178 (rmm 0 0) dg tq [.ref a0, .int v] [(a0, .inl (tq.1, n, .inl f))] (fun (u : Row) => ∀ i, i < n → u i = v) (fun u => [(a0, .inl (tq.1, n, .inl u))]) := by
  refine MV.enter cJ7_fill_53178 4 (by decide) rfl rfl (Nat.le_of_ble_eq_true rfl) ?_
  intro pP eE sS mM aA bB mT cC QQ AA hA hAT hret H locs hP hD hS ls hl
  obtain ⟨hx, hb, hml, hown, hts, hK, hN⟩ := hAT
  have hown : sS.vm.findClass RJ7 = some mM.cls := hown
  have hl : lv_has ls 4 [(0, .ref a0), (1, .int v)] := hl
  refine lv_iconst (v := (nI 0)) hx hb dJ7_fill_53178_0 (by decide) ?_
  refine lv_istore_n (lv' := [(2, .int (nI 0)), (0, .ref a0), (1, .int v)]) hx hb dJ7_fill_53178_1 rfl hl (by decide) rfl (fun ls hl => ?_)
  refine lv_aload_n hx hb dJ7_fill_53178_2 rfl (lv_at hl 1 rfl) ?_
  refine va_alen (v := (nI n)) hx hb hK hP 0 0 rfl rfl rfl dJ7_fill_53178_3 ?_
  refine lv_istore_n (lv' := [(3, .int (nI n)), (2, .int (nI 0)), (0, .ref a0), (1, .int v)]) hx hb dJ7_fill_53178_4 rfl hl (by decide) rfl (fun ls hl => ?_)
  have loop5 : ∀ (fu : Nat) (i_ : Nat) (f_ : Row) (H : Heap) (locs : List Loc) (ls : Array Slot), ((∀ i, i < i_ → f_ i = v) ∧ i_ ≤ n) → n - i_ < fu → va_P dg vwCl [(a0, .inl (tq.1, n, .inl f_))] H → va_D AA [(a0, .inl (tq.1, n, .inl f_))] → va_S AA sS.heap H locs → lv_has ls 4 [(0, .ref a0), (1, .int v), (2, .int (nI i_)), (3, .int (nI n))] → W pP ln eE (rmm 0 0) sS mM aA bB mT cC H locs 0 0 QQ (F0 mM 5 ls []) := by
    intro fu
    induction fu with
    | zero => intro i_ f_ H locs ls _ hm; exact absurd hm (Nat.not_lt_zero _)
    | succ fu ih5 =>
      intro i_ f_ H locs ls hinv hm hP hD hS hl
      obtain ⟨hi1, hi2⟩ := hinv
      refine lv_iload_n hx hb dJ7_fill_53178_5 rfl (lv_at hl 2 rfl) ?_
      refine lv_iload_n hx hb dJ7_fill_53178_6 rfl (lv_at hl 3 rfl) ?_
      refine r_icmp_ge (tgt := 20) hx hb (nI_tI (by omega)) (nI_tI (by omega)) dJ7_fill_53178_7 (by decide) (fun c7 => ?_) (fun c7 => ?_)
      · skip
        exact hret (f_) H locs _ ls (fun i h => hi1 i (by omega)) (hP.sub [0] rfl) (hD.sub [0] (by decide) rfl) hS dJ7_fill_53178_20
      · skip
        refine lv_aload_n hx hb dJ7_fill_53178_10 rfl (lv_at hl 0 rfl) ?_
        refine lv_iload_n hx hb dJ7_fill_53178_11 rfl (lv_at hl 2 rfl) ?_
        refine lv_iload_n hx hb dJ7_fill_53178_12 rfl (lv_at hl 1 rfl) ?_
        refine r_iast_n hx hb hK hP hD hS 0 rfl (k := i_) (by omega) (by omega) dJ7_fill_53178_13 (fun H locs hP hD hS => ?_)
        have hP : va_P dg vwCl [(a0, .inl (tq.1, n, .inl (upd f_ i_ v)))] H := hP
        have hD : va_D AA [(a0, .inl (tq.1, n, .inl (upd f_ i_ v)))] := hD
        refine lv_iinc (v := (nI (i_ + 1))) (lv' := [(2, .int (nI (i_ + 1))), (0, .ref a0), (1, .int v), (3, .int (nI n))]) hx hb dJ7_fill_53178_14 hl (k := 2) rfl (nI_add _ _) (by decide) rfl (fun ls hl => ?_)
        refine lv_goto (tgt := 5) hx hb dJ7_fill_53178_17 (by decide) ?_
        exact ih5 (i_ + 1) (upd f_ i_ v) H locs ls (⟨fun i h => by by_cases e0 : i = i_; (rw [e0, pk_us]); (rw [pk_un e0]; exact hi1 i (by omega)), by omega⟩) (by omega) (hP.sub [0] rfl) (hD.sub [0] (by decide) rfl) hS (lv_sub hl [1, 2, 0, 3] rfl)
  exact loop5 _ 0 f H locs ls (⟨fun i h => absurd h (Nat.not_lt_zero i), by omega⟩) (Nat.lt_succ_self _) (hP.sub [0] rfl) (hD.sub [0] (by decide) rfl) hS (lv_sub hl [2, 3, 1, 0] rfl)
theorem hdX3_length : yX3_length.cls = RX3 ∧ yX3_length.cls ≠ "java/lang/invoke/MethodHandle" ∧ yX3_length.cls ≠ "java/lang/invoke/VarHandle" ∧ (parseMethodDescriptor yX3_length.desc).map (fun d => d.parameters.length) = some 0 := by decide +kernel
set_option maxHeartbeats 4000000 in
set_option maxRecDepth 100000 in
theorem kX3_length (ln : Launch) (dg : va_G) (tq : ClassId × ClassId) (w0 w1 : Nat) (len : Nat) (pc : Row) : MR ln yX3_length wsX3_length (rmm 0 0) dg tq [.ref w0] [(w0, .inr (3, [.ref w1, .int (nI len)])), (w1, .inl (tq.1, 60, .inl pc))] (fun r => r = (nI len)) := by
  refine MR.enter cX3_length 1 .int (by decide) rfl rfl (Nat.le_of_ble_eq_true rfl) ?_
  intro pP eE sS mM aA bB mT cC QQ AA hA hAT hret H locs hP hS ls hl
  obtain ⟨hx, hb, hml, hown, hts, hK, hN⟩ := hAT
  have hown : sS.vm.findClass RX3 = some mM.cls := hown
  have hl : lv_has ls 1 [(0, .ref w0)] := hl
  have in3 : ∀ w ∈ u_ws RX3 TX3 2, w ∈ wsX3_length := (fun _ h9 => List.mem_cons_of_mem _ (List.mem_append_right _ h9))
  have f15 := hts (.fieldLink RX3 15 "OrphanChain$Path" "length" "I") (List.mem_of_getElem? (i := 1) rfl)
  refine lv_aload_n hx hb dX3_length_0 rfl (lv_at hl 0 rfl) ?_
  refine va_get (D := dg) (ci := 3) (v := .int (nI len)) (C := RX3) (T := TX3) (N := 2) hx hb hts in3 hown hK hP 0 rfl rfl 1 (by decide) f15 (fun _ h9 => h9) rfl dX3_length_1 ?_
  exact hret (nI len) H locs _ ls (rfl) rfl hS dX3_length_4
theorem hdX3_at : yX3_at.cls = RX3 ∧ yX3_at.cls ≠ "java/lang/invoke/MethodHandle" ∧ yX3_at.cls ≠ "java/lang/invoke/VarHandle" ∧ (parseMethodDescriptor yX3_at.desc).map (fun d => d.parameters.length) = some 1 := by decide +kernel
set_option maxHeartbeats 4000000 in
set_option maxRecDepth 100000 in
theorem kX3_at (ln : Launch) (dg : va_G) (tq : ClassId × ClassId) (w0 w1 : Nat) (len : Nat) (pc : Row) (k : Nat) (hk : k < len) (hlen : len ≤ 60) : MR ln yX3_at wsX3_at (rmm 0 0) dg tq [.ref w0, .int (nI k)] [(w0, .inr (3, [.ref w1, .int (nI len)])), (w1, .inl (tq.1, 60, .inl pc))] (fun r => r = (pc k)) := by
  refine MR.enter cX3_at 2 .int (by decide) rfl rfl (Nat.le_of_ble_eq_true rfl) ?_
  intro pP eE sS mM aA bB mT cC QQ AA hA hAT hret H locs hP hS ls hl
  obtain ⟨hx, hb, hml, hown, hts, hK, hN⟩ := hAT
  have hown : sS.vm.findClass RX3 = some mM.cls := hown
  have hl : lv_has ls 2 [(0, .ref w0), (1, .int (nI k))] := hl
  have in3 : ∀ w ∈ u_ws RX3 TX3 2, w ∈ wsX3_at := (fun _ h9 => List.mem_cons_of_mem _ (List.mem_append_right _ h9))
  have f15 := hts (.fieldLink RX3 15 "OrphanChain$Path" "length" "I") (List.mem_of_getElem? (i := 1) rfl)
  have f9 := hts (.fieldLink RX3 9 "OrphanChain$Path" "entries" "[I") (List.mem_of_getElem? (i := 2) rfl)
  refine lv_iload_n hx hb dX3_at_0 rfl (lv_at hl 1 rfl) ?_
  refine r_if_lt (tgt := 30) hx hb (nI_tI (by omega)) dX3_at_1 (by decide) (fun c1 => False.elim (by omega)) (fun c1 => ?_)
  refine lv_iload_n hx hb dX3_at_4 rfl (lv_at hl 1 rfl) ?_
  refine lv_aload_n hx hb dX3_at_5 rfl (lv_at hl 0 rfl) ?_
  refine va_get (D := dg) (ci := 3) (v := .int (nI len)) (C := RX3) (T := TX3) (N := 2) hx hb hts in3 hown hK hP 0 rfl rfl 1 (by decide) f15 (fun _ h9 => h9) rfl dX3_at_6 ?_
  refine r_icmp_ge (tgt := 30) hx hb (nI_tI (by omega)) (nI_tI (by omega)) dX3_at_9 (by decide) (fun c9 => False.elim (by omega)) (fun c9 => ?_)
  refine lv_iload_n hx hb dX3_at_12 rfl (lv_at hl 1 rfl) ?_
  refine lv_aload_n hx hb dX3_at_13 rfl (lv_at hl 0 rfl) ?_
  refine va_get (D := dg) (ci := 3) (v := .ref w1) (C := RX3) (T := TX3) (N := 2) hx hb hts in3 hown hK hP 0 rfl rfl 0 (by decide) f9 (fun _ h9 => h9) rfl dX3_at_14 ?_
  refine va_alen (v := (nI 60)) hx hb hK hP 1 0 rfl rfl rfl dX3_at_17 ?_
  refine r_icmp_ge (tgt := 30) hx hb (nI_tI (by omega)) (nI_tI (by omega)) dX3_at_18 (by decide) (fun c18 => False.elim (by omega)) (fun c18 => ?_)
  refine lv_aload_n hx hb dX3_at_21 rfl (lv_at hl 0 rfl) ?_
  refine va_get (D := dg) (ci := 3) (v := .ref w1) (C := RX3) (T := TX3) (N := 2) hx hb hts in3 hown hK hP 0 rfl rfl 0 (by decide) f9 (fun _ h9 => h9) rfl dX3_at_22 ?_
  refine lv_iload_n hx hb dX3_at_25 rfl (lv_at hl 1 rfl) ?_
  refine r_iald_n hx hb hK hP 1 rfl (k := k) (by omega) (by omega) dX3_at_26 ?_
  refine lv_goto (tgt := 32) hx hb dX3_at_27 (by decide) ?_
  exact hret (pc k) H locs _ ls (rfl) rfl hS dX3_at_32
