theorem hdX2_branchOf : yX2_branchOf.cls = RX2 ∧ yX2_branchOf.cls ≠ "java/lang/invoke/MethodHandle" ∧ yX2_branchOf.cls ≠ "java/lang/invoke/VarHandle" ∧ (parseMethodDescriptor yX2_branchOf.desc).map (fun d => d.parameters.length) = some 1 := by decide +kernel
set_option maxHeartbeats 4000000 in
set_option maxRecDepth 100000 in
theorem kX2_branchOf (ln : Launch) (dg : va_G) (tq : ClassId × ClassId) (o0 wt wy pb pt pp : Nat) (osz : Int32) (wr : Row) (k : Nat) (hk : k < 5) : MR ln yX2_branchOf wsX2_branchOf (rmm 0 0) dg tq [.ref o0, .int (nI k)] [(o0, .inr (2, [.ref wt, .ref wy, .ref pb, .ref pt, .ref pp, .int osz])), (wt, .inl (tq.1, 5, .inl wr))] (fun r => r = (wr k)) := by
  refine MR.enter cX2_branchOf 2 .int (by decide) rfl rfl (Nat.le_of_ble_eq_true rfl) ?_
  intro pP eE sS mM aA bB mT cC QQ AA hA hAT hret H locs hP hS ls hl
  obtain ⟨hx, hb, hml, hown, hts, hK, hN⟩ := hAT
  have hown : sS.vm.findClass RX2 = some mM.cls := hown
  have hl : lv_has ls 2 [(0, .ref o0), (1, .int (nI k))] := hl
  have in2 : ∀ w ∈ u_ws RX2 TX2 6, w ∈ wsX2_branchOf := (fun _ h9 => List.mem_cons_of_mem _ (List.mem_append_right _ h9))
  have f9 := hts (.fieldLink RX2 9 "OrphanChain$Orders" "waiting" "[I") (List.mem_of_getElem? (i := 1) rfl)
  refine lv_iload_n hx hb dX2_branchOf_0 rfl (lv_at hl 1 rfl) ?_
  refine r_if_lt (tgt := 22) hx hb (nI_tI (by omega)) dX2_branchOf_1 (by decide) (fun c1 => False.elim (by omega)) (fun c1 => ?_)
  refine lv_iload_n hx hb dX2_branchOf_4 rfl (lv_at hl 1 rfl) ?_
  refine lv_aload_n hx hb dX2_branchOf_5 rfl (lv_at hl 0 rfl) ?_
  refine va_get (D := dg) (ci := 2) (v := .ref wt) (C := RX2) (T := TX2) (N := 6) hx hb hts in2 hown hK hP 0 rfl rfl 0 (by decide) f9 (fun _ h9 => h9) rfl dX2_branchOf_6 ?_
  refine va_alen (v := (nI 5)) hx hb hK hP 1 0 rfl rfl rfl dX2_branchOf_9 ?_
  refine r_icmp_ge (tgt := 22) hx hb (nI_tI (by omega)) (nI_tI (by omega)) dX2_branchOf_10 (by decide) (fun c10 => False.elim (by omega)) (fun c10 => ?_)
  refine lv_aload_n hx hb dX2_branchOf_13 rfl (lv_at hl 0 rfl) ?_
  refine va_get (D := dg) (ci := 2) (v := .ref wt) (C := RX2) (T := TX2) (N := 6) hx hb hts in2 hown hK hP 0 rfl rfl 0 (by decide) f9 (fun _ h9 => h9) rfl dX2_branchOf_14 ?_
  refine lv_iload_n hx hb dX2_branchOf_17 rfl (lv_at hl 1 rfl) ?_
  refine r_iald_n hx hb hK hP 1 rfl (k := k) (by omega) (by omega) dX2_branchOf_18 ?_
  refine lv_goto (tgt := 24) hx hb dX2_branchOf_19 (by decide) ?_
  exact hret (wr k) H locs _ ls (rfl) rfl hS dX2_branchOf_24
theorem hdX2_waysTo : yX2_waysTo.cls = RX2 ∧ yX2_waysTo.cls ≠ "java/lang/invoke/MethodHandle" ∧ yX2_waysTo.cls ≠ "java/lang/invoke/VarHandle" ∧ (parseMethodDescriptor yX2_waysTo.desc).map (fun d => d.parameters.length) = some 1 := by decide +kernel
set_option maxHeartbeats 4000000 in
set_option maxRecDepth 100000 in
theorem kX2_waysTo (ln : Launch) (dg : va_G) (tq : ClassId × ClassId) (o0 wt wy pb pt pp : Nat) (osz : Int32) (wyr : Row) (k : Nat) (hk : k < 32) : MR ln yX2_waysTo wsX2_waysTo (rmm 0 0) dg tq [.ref o0, .int (nI k)] [(o0, .inr (2, [.ref wt, .ref wy, .ref pb, .ref pt, .ref pp, .int osz])), (wy, .inl (tq.1, 32, .inl wyr))] (fun r => r = (wyr k)) := by
  refine MR.enter cX2_waysTo 2 .int (by decide) rfl rfl (Nat.le_of_ble_eq_true rfl) ?_
  intro pP eE sS mM aA bB mT cC QQ AA hA hAT hret H locs hP hS ls hl
  obtain ⟨hx, hb, hml, hown, hts, hK, hN⟩ := hAT
  have hown : sS.vm.findClass RX2 = some mM.cls := hown
  have hl : lv_has ls 2 [(0, .ref o0), (1, .int (nI k))] := hl
  have in2 : ∀ w ∈ u_ws RX2 TX2 6, w ∈ wsX2_waysTo := (fun _ h9 => List.mem_cons_of_mem _ (List.mem_append_right _ h9))
  have f15 := hts (.fieldLink RX2 15 "OrphanChain$Orders" "ways" "[I") (List.mem_of_getElem? (i := 1) rfl)
  refine lv_iload_n hx hb dX2_waysTo_0 rfl (lv_at hl 1 rfl) ?_
  refine r_if_lt (tgt := 22) hx hb (nI_tI (by omega)) dX2_waysTo_1 (by decide) (fun c1 => False.elim (by omega)) (fun c1 => ?_)
  refine lv_iload_n hx hb dX2_waysTo_4 rfl (lv_at hl 1 rfl) ?_
  refine lv_aload_n hx hb dX2_waysTo_5 rfl (lv_at hl 0 rfl) ?_
  refine va_get (D := dg) (ci := 2) (v := .ref wy) (C := RX2) (T := TX2) (N := 6) hx hb hts in2 hown hK hP 0 rfl rfl 1 (by decide) f15 (fun _ h9 => h9) rfl dX2_waysTo_6 ?_
  refine va_alen (v := (nI 32)) hx hb hK hP 1 0 rfl rfl rfl dX2_waysTo_9 ?_
  refine r_icmp_ge (tgt := 22) hx hb (nI_tI (by omega)) (nI_tI (by omega)) dX2_waysTo_10 (by decide) (fun c10 => False.elim (by omega)) (fun c10 => ?_)
  refine lv_aload_n hx hb dX2_waysTo_13 rfl (lv_at hl 0 rfl) ?_
  refine va_get (D := dg) (ci := 2) (v := .ref wy) (C := RX2) (T := TX2) (N := 6) hx hb hts in2 hown hK hP 0 rfl rfl 1 (by decide) f15 (fun _ h9 => h9) rfl dX2_waysTo_14 ?_
  refine lv_iload_n hx hb dX2_waysTo_17 rfl (lv_at hl 1 rfl) ?_
  refine r_iald_n hx hb hK hP 1 rfl (k := k) (by omega) (by omega) dX2_waysTo_18 ?_
  refine lv_goto (tgt := 23) hx hb dX2_waysTo_19 (by decide) ?_
  exact hret (wyr k) H locs _ ls (rfl) rfl hS dX2_waysTo_23
theorem hdX2_setWays : yX2_setWays.cls = RX2 ∧ yX2_setWays.cls ≠ "java/lang/invoke/MethodHandle" ∧ yX2_setWays.cls ≠ "java/lang/invoke/VarHandle" ∧ (parseMethodDescriptor yX2_setWays.desc).map (fun d => d.parameters.length) = some 2 := by decide +kernel
set_option maxHeartbeats 4000000 in
set_option maxRecDepth 100000 in
theorem kX2_setWays (ln : Launch) (dg : va_G) (tq : ClassId × ClassId) (o0 wt wy pb pt pp : Nat) (osz : Int32) (wyr : Row) (k : Nat) (v : Int32) (hk : k < 32) : MV ln yX2_setWays wsX2_setWays (rmm 0 0) dg tq [.ref o0, .int (nI k), .int v] [(o0, .inr (2, [.ref wt, .ref wy, .ref pb, .ref pt, .ref pp, .int osz])), (wy, .inl (tq.1, 32, .inl wyr))] (fun (u : Unit) => True) (fun u => [(o0, .inr (2, [.ref wt, .ref wy, .ref pb, .ref pt, .ref pp, .int osz])), (wy, .inl (tq.1, 32, .inl (upd wyr k v)))]) := by
  refine MV.enter cX2_setWays 3 (by decide) rfl rfl (Nat.le_of_ble_eq_true rfl) ?_
  intro pP eE sS mM aA bB mT cC QQ AA hA hAT hret H locs hP hD hS ls hl
  obtain ⟨hx, hb, hml, hown, hts, hK, hN⟩ := hAT
  have hown : sS.vm.findClass RX2 = some mM.cls := hown
  have hl : lv_has ls 3 [(0, .ref o0), (1, .int (nI k)), (2, .int v)] := hl
  have in2 : ∀ w ∈ u_ws RX2 TX2 6, w ∈ wsX2_setWays := (fun _ h9 => List.mem_cons_of_mem _ (List.mem_append_right _ h9))
  have f15 := hts (.fieldLink RX2 15 "OrphanChain$Orders" "ways" "[I") (List.mem_of_getElem? (i := 1) rfl)
  refine lv_iload_n hx hb dX2_setWays_0 rfl (lv_at hl 1 rfl) ?_
  refine r_if_lt (tgt := 20) hx hb (nI_tI (by omega)) dX2_setWays_1 (by decide) (fun c1 => False.elim (by omega)) (fun c1 => ?_)
  refine lv_iload_n hx hb dX2_setWays_4 rfl (lv_at hl 1 rfl) ?_
  refine lv_aload_n hx hb dX2_setWays_5 rfl (lv_at hl 0 rfl) ?_
  refine va_get (D := dg) (ci := 2) (v := .ref wy) (C := RX2) (T := TX2) (N := 6) hx hb hts in2 hown hK hP 0 rfl rfl 1 (by decide) f15 (fun _ h9 => h9) rfl dX2_setWays_6 ?_
  refine va_alen (v := (nI 32)) hx hb hK hP 1 0 rfl rfl rfl dX2_setWays_9 ?_
  refine r_icmp_ge (tgt := 20) hx hb (nI_tI (by omega)) (nI_tI (by omega)) dX2_setWays_10 (by decide) (fun c10 => False.elim (by omega)) (fun c10 => ?_)
  refine lv_aload_n hx hb dX2_setWays_13 rfl (lv_at hl 0 rfl) ?_
  refine va_get (D := dg) (ci := 2) (v := .ref wy) (C := RX2) (T := TX2) (N := 6) hx hb hts in2 hown hK hP 0 rfl rfl 1 (by decide) f15 (fun _ h9 => h9) rfl dX2_setWays_14 ?_
  refine lv_iload_n hx hb dX2_setWays_17 rfl (lv_at hl 1 rfl) ?_
  refine lv_iload_n hx hb dX2_setWays_18 rfl (lv_at hl 2 rfl) ?_
  refine r_iast_n hx hb hK hP hD hS 1 rfl (k := k) (by omega) (by omega) dX2_setWays_19 (fun H locs hP hD hS => ?_)
  have hP : va_P dg vwCl [(o0, .inr (2, [.ref wt, .ref wy, .ref pb, .ref pt, .ref pp, .int osz])), (wy, .inl (tq.1, 32, .inl (upd wyr k v)))] H := hP
  have hD : va_D AA [(o0, .inr (2, [.ref wt, .ref wy, .ref pb, .ref pt, .ref pp, .int osz])), (wy, .inl (tq.1, 32, .inl (upd wyr k v)))] := hD
  exact hret (()) H locs _ ls (trivial) (hP.sub [0, 1] rfl) (hD.sub [0, 1] (by decide) rfl) hS dX2_setWays_20
theorem hdX2_gather : yX2_gather.cls = RX2 ∧ yX2_gather.cls ≠ "java/lang/invoke/MethodHandle" ∧ yX2_gather.cls ≠ "java/lang/invoke/VarHandle" ∧ (parseMethodDescriptor yX2_gather.desc).map (fun d => d.parameters.length) = some 1 := by decide +kernel
set_option maxHeartbeats 4000000 in
set_option maxRecDepth 100000 in
theorem kX2_gather (ln : Launch) (dg : va_G) (tq : ClassId × ClassId) (o0 wt wy pb pt pp : Nat) (osz : Int32) (wr : Row) (h0 h1 : Nat) (c : Row) (s : Row) (hR : XR s c) (hW : WF s) (h5 : nW s ≤ 5) : MV ln yX2_gather wsX2_gather (rmm 2 43) dg tq [.ref o0, .ref h0] [(o0, .inr (2, [.ref wt, .ref wy, .ref pb, .ref pt, .ref pp, .int osz])), (wt, .inl (tq.1, 5, .inl wr)), (h0, .inr (1, [.ref h1])), (h1, .inl (tq.1, 1473, .inl c))] (fun (u : Row) => ∀ k, k < nW s → u k = nI (wB s k)) (fun u => [(o0, .inr (2, [.ref wt, .ref wy, .ref pb, .ref pt, .ref pp, .int (nI (nW s))])), (wt, .inl (tq.1, 5, .inl u)), (h0, .inr (1, [.ref h1])), (h1, .inl (tq.1, 1473, .inl c))]) := by
  refine MV.enter cX2_gather 3 (by decide) rfl rfl (Nat.le_of_ble_eq_true rfl) ?_
  intro pP eE sS mM aA bB mT cC QQ AA hA hAT hret H locs hP hD hS ls hl
  obtain ⟨hx, hb, hml, hown, hts, hK, hN⟩ := hAT
  have hown : sS.vm.findClass RX2 = some mM.cls := hown
  have hl : lv_has ls 3 [(0, .ref o0), (1, .ref h0)] := hl
  have in2 : ∀ w ∈ u_ws RX2 TX2 6, w ∈ wsX2_gather := (fun _ h9 => List.mem_cons_of_mem _ (List.mem_append_left _ (List.mem_append_right _ h9)))
  have f35 := hts (.fieldLink RX2 35 "OrphanChain$Orders" "size" "I") (List.mem_of_getElem? (i := 1) rfl)
  have f9 := hts (.fieldLink RX2 9 "OrphanChain$Orders" "waiting" "[I") (List.mem_of_getElem? (i := 2) rfl)
  have hn60 := hW.n60
  have hb10 := hW.b10
  have hs8 := hW.s8
  refine lv_aload_n hx hb dX2_gather_0 rfl (lv_at hl 0 rfl) ?_
  refine lv_iconst (v := (nI 0)) hx hb dX2_gather_1 (by decide) ?_
  refine va_put (D := dg) (ci := 2) (v := .int (nI 0)) (ty := .int) (C := RX2) (T := TX2) (N := 6) hx hb hts in2 tyX2 tyX2_ok nmX2 hown hK hP hD hS 0 rfl rfl 5 (by decide) f35 (fun _ h9 => h9) rfl (by decide +kernel) rfl rfl (Nat.le_of_ble_eq_true rfl) dX2_gather_2 (fun H locs hP hD hS => ?_)
  have hP : va_P dg vwCl [(o0, .inr (2, [.ref wt, .ref wy, .ref pb, .ref pt, .ref pp, .int (nI 0)])), (wt, .inl (tq.1, 5, .inl wr)), (h0, .inr (1, [.ref h1])), (h1, .inl (tq.1, 1473, .inl c))] H := hP
  have hD : va_D AA [(o0, .inr (2, [.ref wt, .ref wy, .ref pb, .ref pt, .ref pp, .int (nI 0)])), (wt, .inl (tq.1, 5, .inl wr)), (h0, .inr (1, [.ref h1])), (h1, .inl (tq.1, 1473, .inl c))] := hD
  refine lv_iconst (v := (nI 0)) hx hb dX2_gather_5 (by decide) ?_
  refine lv_istore_n (lv' := [(2, .int (nI 0)), (0, .ref o0), (1, .ref h0)]) hx hb dX2_gather_6 rfl hl (by decide) rfl (fun ls hl => ?_)
  have loop7 : ∀ (fu : Nat) (b_ : Nat) (k_ : Nat) (f_ : Row) (H : Heap) (locs : List Loc) (ls : Array Slot), (b_ ≤ nB s ∧ k_ = cntF (waitB s) b_ ∧ (∀ k, k < k_ → f_ k = nI (wB s k))) → nB s - b_ < fu → va_P dg vwCl [(o0, .inr (2, [.ref wt, .ref wy, .ref pb, .ref pt, .ref pp, .int (nI k_)])), (wt, .inl (tq.1, 5, .inl f_)), (h0, .inr (1, [.ref h1])), (h1, .inl (tq.1, 1473, .inl c))] H → va_D AA [(o0, .inr (2, [.ref wt, .ref wy, .ref pb, .ref pt, .ref pp, .int (nI k_)])), (wt, .inl (tq.1, 5, .inl f_)), (h0, .inr (1, [.ref h1])), (h1, .inl (tq.1, 1473, .inl c))] → va_S AA sS.heap H locs → lv_has ls 3 [(0, .ref o0), (1, .ref h0), (2, .int (nI b_))] → W pP ln eE (rmm 2 43) sS mM aA bB mT cC H locs 0 0 QQ (F0 mM 7 ls []) := by
    intro fu
    induction fu with
    | zero => intro b_ k_ f_ H locs ls _ hm; exact absurd hm (Nat.not_lt_zero _)
    | succ fu ih7 =>
      intro b_ k_ f_ H locs ls hinv hm hP hD hS hl
      obtain ⟨hi1, hi2, hi3⟩ := hinv
      refine lv_iload_n hx hb dX2_gather_7 rfl (lv_at hl 2 rfl) ?_
      refine lv_aload_n hx hb dX2_gather_8 rfl (lv_at hl 1 rfl) ?_
      refine lv_iconst (v := (nI 3)) hx hb dX2_gather_9 (by decide) ?_
      refine call_x (va_runV (As := [.int (nI 3)]) (rest := [.int (nI b_)]) ⟨hx, hb, hml, hown, hts⟩ (kX1_number ln dg tq (h0 := h0) (h1 := h1) (c := c) (k := 3) (hk := (by omega)) H.size) (cwV 1 hts gX2_gather_X1_number rfl rfl rfl hdX1_number ⟨Nat.le_of_ble_eq_true rfl, Nat.le_of_ble_eq_true rfl⟩) (preVR hK hN hP [2, 3] rfl 2 rfl rfl [.int (nI 3)]) rfl rfl hl.1 rfl (lv_room (Nat.le_of_ble_eq_true rfl)) dX2_gather_10 ⟨Nat.le_refl _, Nat.le_refl _⟩) hP hS hA (fun H locs hP hS => ?_)
      refine r_top (show (c 3) = (nI (nB s)) from (hR.bb hW)) ?_
      refine r_icmp_ge (tgt := 62) hx hb (nI_tI (by omega)) (nI_tI (by omega)) dX2_gather_13 (by decide) (fun c13 => ?_) (fun c13 => ?_)
      · skip
        have ew : (nI k_) = (nI (nW s)) := by rw [hi2, show b_ = nB s by omega]
        have hP : va_P dg vwCl [(o0, .inr (2, [.ref wt, .ref wy, .ref pb, .ref pt, .ref pp, .int (nI (nW s))])), (wt, .inl (tq.1, 5, .inl f_)), (h0, .inr (1, [.ref h1])), (h1, .inl (tq.1, 1473, .inl c))] H := by rw [← ew]; exact hP
        have hD : va_D AA [(o0, .inr (2, [.ref wt, .ref wy, .ref pb, .ref pt, .ref pp, .int (nI (nW s))])), (wt, .inl (tq.1, 5, .inl f_)), (h0, .inr (1, [.ref h1])), (h1, .inl (tq.1, 1473, .inl c))] := by rw [← ew]; exact hD
        exact hret (f_) H locs _ ls (fun k h => hi3 k (by rw [hi2, show b_ = nB s by omega]; exact h)) (hP.sub [0, 1, 2, 3] rfl) (hD.sub [0, 1, 2, 3] (by decide) rfl) hS dX2_gather_62
      · skip
        refine lv_aload_n hx hb dX2_gather_16 rfl (lv_at hl 1 rfl) ?_
        refine lv_iload_n hx hb dX2_gather_17 rfl (lv_at hl 2 rfl) ?_
        refine call_x (va_runV (As := [.int (nI b_)]) (rest := []) ⟨hx, hb, hml, hown, hts⟩ (kX1_isWaiting ln dg tq (h0 := h0) (h1 := h1) (c := c) (s := s) (hR := hR) (hW := hW) (b := b_) (hb0 := (by omega)) H.size) (cwV 1 hts gX2_gather_X1_isWaiting rfl rfl rfl hdX1_isWaiting ⟨Nat.le_of_ble_eq_true rfl, Nat.le_of_ble_eq_true rfl⟩) (preVR hK hN hP [2, 3] rfl 2 rfl rfl [.int (nI b_)]) rfl rfl hl.1 rfl (lv_room (Nat.le_of_ble_eq_true rfl)) dX2_gather_18 ⟨Nat.le_refl _, Nat.le_refl _⟩) hP hS hA (fun H locs hP hS => ?_)
        refine r_if_eq_b (tgt := 56) hx hb dX2_gather_21 (by decide) (fun c21 => ?_) (fun c21 => ?_)
        · skip
          refine lv_iinc (v := (nI (b_ + 1))) (lv' := [(2, .int (nI (b_ + 1))), (0, .ref o0), (1, .ref h0)]) hx hb dX2_gather_56 hl (k := 2) rfl (nI_add _ _) (by decide) rfl (fun ls hl => ?_)
          refine lv_goto (tgt := 7) hx hb dX2_gather_59 (by decide) ?_
          exact ih7 (b_ + 1) k_ f_ H locs ls (by first | exact ⟨by omega, by rw [cntF, if_pos c21]; omega, fun k h => by by_cases e0 : k = k_; (rw [e0, pk_us, hi2]; exact congrArg nI (nthF_at (waitB s) (by omega) c21).symm); (rw [pk_un e0]; exact hi3 k (by omega))⟩ | exact ⟨by omega, by rw [cntF, if_neg (by rw [c21]; decide)]; omega, hi3⟩) (by omega) (hP.sub [0, 1, 2, 3] rfl) (hD.sub [0, 1, 2, 3] (by decide) rfl) hS (lv_sub hl [1, 2, 0] rfl)
        · skip
          have hct := cntF_mono (waitB s) (a := b_ + 1) (b := nB s) (by omega)
          have h55 : cntF (waitB s) (nB s) ≤ 5 := h5
          rw [cntF, if_pos c21] at hct
          refine lv_aload_n hx hb dX2_gather_24 rfl (lv_at hl 0 rfl) ?_
          refine va_get (D := dg) (ci := 2) (v := .int (nI k_)) (C := RX2) (T := TX2) (N := 6) hx hb hts in2 hown hK hP 0 rfl rfl 5 (by decide) f35 (fun _ h9 => h9) rfl dX2_gather_25 ?_
          refine lv_aload_n hx hb dX2_gather_28 rfl (lv_at hl 0 rfl) ?_
          refine va_get (D := dg) (ci := 2) (v := .ref wt) (C := RX2) (T := TX2) (N := 6) hx hb hts in2 hown hK hP 0 rfl rfl 0 (by decide) f9 (fun _ h9 => h9) rfl dX2_gather_29 ?_
          refine va_alen (v := (nI 5)) hx hb hK hP 1 0 rfl rfl rfl dX2_gather_32 ?_
          refine r_icmp_ge (tgt := 56) hx hb (nI_tI (by omega)) (nI_tI (by omega)) dX2_gather_33 (by decide) (fun c33 => False.elim (by omega)) (fun c33 => ?_)
          refine lv_aload_n hx hb dX2_gather_36 rfl (lv_at hl 0 rfl) ?_
          refine va_get (D := dg) (ci := 2) (v := .ref wt) (C := RX2) (T := TX2) (N := 6) hx hb hts in2 hown hK hP 0 rfl rfl 0 (by decide) f9 (fun _ h9 => h9) rfl dX2_gather_37 ?_
          refine lv_aload_n hx hb dX2_gather_40 rfl (lv_at hl 0 rfl) ?_
          refine va_get (D := dg) (ci := 2) (v := .int (nI k_)) (C := RX2) (T := TX2) (N := 6) hx hb hts in2 hown hK hP 0 rfl rfl 5 (by decide) f35 (fun _ h9 => h9) rfl dX2_gather_41 ?_
          refine lv_iload_n hx hb dX2_gather_44 rfl (lv_at hl 2 rfl) ?_
          refine r_iast_n hx hb hK hP hD hS 1 rfl (k := k_) (by omega) (by omega) dX2_gather_45 (fun H locs hP hD hS => ?_)
          have hP : va_P dg vwCl [(o0, .inr (2, [.ref wt, .ref wy, .ref pb, .ref pt, .ref pp, .int (nI k_)])), (wt, .inl (tq.1, 5, .inl (upd f_ k_ (nI b_)))), (h0, .inr (1, [.ref h1])), (h1, .inl (tq.1, 1473, .inl c))] H := hP
          have hD : va_D AA [(o0, .inr (2, [.ref wt, .ref wy, .ref pb, .ref pt, .ref pp, .int (nI k_)])), (wt, .inl (tq.1, 5, .inl (upd f_ k_ (nI b_)))), (h0, .inr (1, [.ref h1])), (h1, .inl (tq.1, 1473, .inl c))] := hD
          refine lv_aload_n hx hb dX2_gather_46 rfl (lv_at hl 0 rfl) ?_
          refine lv_dup hx hb dX2_gather_47 rfl ?_
          refine va_get (D := dg) (ci := 2) (v := .int (nI k_)) (C := RX2) (T := TX2) (N := 6) hx hb hts in2 hown hK hP 0 rfl rfl 5 (by decide) f35 (fun _ h9 => h9) rfl dX2_gather_48 ?_
          refine lv_iconst (v := (nI 1)) hx hb dX2_gather_51 (by decide) ?_
          refine r_iadd_n hx hb dX2_gather_52 ?_
          refine va_put (D := dg) (ci := 2) (v := .int (nI (k_ + 1))) (ty := .int) (C := RX2) (T := TX2) (N := 6) hx hb hts in2 tyX2 tyX2_ok nmX2 hown hK hP hD hS 0 rfl rfl 5 (by decide) f35 (fun _ h9 => h9) rfl (by decide +kernel) rfl rfl (Nat.le_of_ble_eq_true rfl) dX2_gather_53 (fun H locs hP hD hS => ?_)
          have hP : va_P dg vwCl [(o0, .inr (2, [.ref wt, .ref wy, .ref pb, .ref pt, .ref pp, .int (nI (k_ + 1))])), (wt, .inl (tq.1, 5, .inl (upd f_ k_ (nI b_)))), (h0, .inr (1, [.ref h1])), (h1, .inl (tq.1, 1473, .inl c))] H := hP
          have hD : va_D AA [(o0, .inr (2, [.ref wt, .ref wy, .ref pb, .ref pt, .ref pp, .int (nI (k_ + 1))])), (wt, .inl (tq.1, 5, .inl (upd f_ k_ (nI b_)))), (h0, .inr (1, [.ref h1])), (h1, .inl (tq.1, 1473, .inl c))] := hD
          refine lv_iinc (v := (nI (b_ + 1))) (lv' := [(2, .int (nI (b_ + 1))), (0, .ref o0), (1, .ref h0)]) hx hb dX2_gather_56 hl (k := 2) rfl (nI_add _ _) (by decide) rfl (fun ls hl => ?_)
          refine lv_goto (tgt := 7) hx hb dX2_gather_59 (by decide) ?_
          exact ih7 (b_ + 1) (k_ + 1) (upd f_ k_ (nI b_)) H locs ls (by first | exact ⟨by omega, by rw [cntF, if_pos c21]; omega, fun k h => by by_cases e0 : k = k_; (rw [e0, pk_us, hi2]; exact congrArg nI (nthF_at (waitB s) (by omega) c21).symm); (rw [pk_un e0]; exact hi3 k (by omega))⟩ | exact ⟨by omega, by rw [cntF, if_neg (by rw [c21]; decide)]; omega, hi3⟩) (by omega) (hP.sub [0, 1, 2, 3] rfl) (hD.sub [0, 1, 2, 3] (by decide) rfl) hS (lv_sub hl [1, 2, 0] rfl)
  exact loop7 _ 0 0 wr H locs ls (⟨by omega, rfl, fun k h => absurd h (Nat.not_lt_zero k)⟩) (Nat.lt_succ_self _) (hP.sub [0, 1, 2, 3] rfl) (hD.sub [0, 1, 2, 3] (by decide) rfl) hS (lv_sub hl [1, 2, 0] rfl)
theorem hdX2_fillBehind : yX2_fillBehind.cls = RX2 ∧ yX2_fillBehind.cls ≠ "java/lang/invoke/MethodHandle" ∧ yX2_fillBehind.cls ≠ "java/lang/invoke/VarHandle" ∧ (parseMethodDescriptor yX2_fillBehind.desc).map (fun d => d.parameters.length) = some 2 := by decide +kernel
set_option maxHeartbeats 4000000 in
set_option maxRecDepth 100000 in
theorem kX2_fillBehind (ln : Launch) (dg : va_G) (tq : ClassId × ClassId) (o0 wt wy pb pt pp : Nat) (b1 q1 : Nat) (wr bf qf : Row) (ql : Int32) (h0 h1 : Nat) (c : Row) (s : Row) (hR : XR s c) (hW : WF s) (h5 : nW s ≤ 5) (hG : ∀ k, k < nW s → wr k = nI (wB s k)) (set : Nat) (hset : set < 2 ^ nW s) : MV ln yX2_fillBehind wsX2_fillBehind (rmm 3 70) dg tq [.ref o0, .ref h0, .int (nI set)] [(o0, .inr (2, [.ref wt, .ref wy, .ref pb, .ref pt, .ref pp, .int (nI (nW s))])), (wt, .inl (tq.1, 5, .inl wr)), (pb, .inr (5, [.ref b1])), (b1, .inl (tq.1, 6, .inl bf)), (pp, .inr (3, [.ref q1, .int ql])), (q1, .inl (tq.1, 60, .inl qf)), (h0, .inr (1, [.ref h1])), (h1, .inl (tq.1, 1473, .inl c))] (fun (u : Row × Int32 × Row) => SV u.1 (setV s set (nW s))) (fun u => [(o0, .inr (2, [.ref wt, .ref wy, .ref pb, .ref pt, .ref pp, .int (nI (nW s))])), (wt, .inl (tq.1, 5, .inl wr)), (pb, .inr (5, [.ref b1])), (b1, .inl (tq.1, 6, .inl u.1)), (pp, .inr (3, [.ref q1, .int u.2.1])), (q1, .inl (tq.1, 60, .inl u.2.2)), (h0, .inr (1, [.ref h1])), (h1, .inl (tq.1, 1473, .inl c))]) := by
  refine MV.enter cX2_fillBehind 4 (by decide) rfl rfl (Nat.le_of_ble_eq_true rfl) ?_
  intro pP eE sS mM aA bB mT cC QQ AA hA hAT hret H locs hP hD hS ls hl
  obtain ⟨hx, hb, hml, hown, hts, hK, hN⟩ := hAT
  have hown : sS.vm.findClass RX2 = some mM.cls := hown
  have hl : lv_has ls 4 [(0, .ref o0), (1, .ref h0), (2, .int (nI set))] := hl
  have in2 : ∀ w ∈ u_ws RX2 TX2 6, w ∈ wsX2_fillBehind := (fun _ h9 => List.mem_cons_of_mem _ (List.mem_append_left _ (List.mem_append_left _ (List.mem_append_left _ (List.mem_append_right _ h9)))))
  have f21 := hts (.fieldLink RX2 21 "OrphanChain$Orders" "behind" "LOrphanChain$Purse;") (List.mem_of_getElem? (i := 1) rfl)
  have f35 := hts (.fieldLink RX2 35 "OrphanChain$Orders" "size" "I") (List.mem_of_getElem? (i := 2) rfl)
  have f31 := hts (.fieldLink RX2 31 "OrphanChain$Orders" "path" "LOrphanChain$Path;") (List.mem_of_getElem? (i := 3) rfl)
  have hn60 := hW.n60
  have hb10 := hW.b10
  have hs8 := hW.s8
  have h32 := pow5 h5
  have hhn := hW.hn
  refine lv_aload_n hx hb dX2_fillBehind_0 rfl (lv_at hl 0 rfl) ?_
  refine va_get (D := dg) (ci := 2) (v := .ref pb) (C := RX2) (T := TX2) (N := 6) hx hb hts in2 hown hK hP 0 rfl rfl 2 (by decide) f21 (fun _ h9 => h9) rfl dX2_fillBehind_1 ?_
  refine lv_aload_n hx hb dX2_fillBehind_4 rfl (lv_at hl 1 rfl) ?_
  refine lv_aload_n hx hb dX2_fillBehind_5 rfl (lv_at hl 1 rfl) ?_
  refine lv_iconst (v := (nI 1)) hx hb dX2_fillBehind_6 (by decide) ?_
  refine call_x (va_runV (As := [.int (nI 1)]) (rest := [.ref h0, .ref pb]) ⟨hx, hb, hml, hown, hts⟩ (kX1_number ln dg tq (h0 := h0) (h1 := h1) (c := c) (k := 1) (hk := (by omega)) H.size) (cwV 1 hts gX2_fillBehind_X1_number rfl rfl rfl hdX1_number ⟨Nat.le_of_ble_eq_true rfl, Nat.le_of_ble_eq_true rfl⟩) (preVR hK hN hP [6, 7] rfl 6 rfl rfl [.int (nI 1)]) rfl rfl hl.1 rfl (lv_room (Nat.le_of_ble_eq_true rfl)) dX2_fillBehind_7 ⟨Nat.le_refl _, Nat.le_refl _⟩) hP hS hA (fun H locs hP hS => ?_)
  refine r_top (show (c 1) = (nI (hE s)) from (hR.hh hW)) ?_
  refine call_v (wr := [(o0, .inr (2, [.ref wt, .ref wy, .ref pb, .ref pt, .ref pp, .int (nI (nW s))])), (wt, .inl (tq.1, 5, .inl wr)), (pp, .inr (3, [.ref q1, .int ql])), (q1, .inl (tq.1, 60, .inl qf))]) (va_runV (As := [.ref h0, .int (nI (hE s))]) (rest := []) ⟨hx, hb, hml, hown, hts⟩ (kX5_fill ln dg tq (u0 := pb) (u1 := b1) (f := bf) (h0 := h0) (h1 := h1) (c := c) (s := s) (hR := hR) (hW := hW) (leaf := hE s) (hl0 := (by omega)) H.size) (cwV 2 hts gX2_fillBehind_X5_fill rfl rfl rfl hdX5_fill ⟨Nat.le_of_ble_eq_true rfl, Nat.le_of_ble_eq_true rfl⟩) (preVB hK hN hP hD [2, 3, 6, 7] rfl rfl rfl 2 rfl rfl [.ref h0, .int (nI (hE s))]) rfl rfl hl.1 rfl (lv_room (Nat.le_of_ble_eq_true rfl)) dX2_fillBehind_10 ⟨Nat.le_refl _, Nat.le_refl _⟩) hP hD hS hA [2, 3, 6, 7] [0, 1, 4, 5] rfl rfl (by decide) (by decide) (fun u10 H locs hw10 hP hD hS => ?_)
  obtain ⟨g10, rfl⟩ : ∃ z, z = u10 := ⟨_, rfl⟩
  have hP : va_P dg vwCl [(o0, .inr (2, [.ref wt, .ref wy, .ref pb, .ref pt, .ref pp, .int (nI (nW s))])), (wt, .inl (tq.1, 5, .inl wr)), (pp, .inr (3, [.ref q1, .int ql])), (q1, .inl (tq.1, 60, .inl qf)), (pb, .inr (5, [.ref b1])), (b1, .inl (tq.1, 6, .inl g10)), (h0, .inr (1, [.ref h1])), (h1, .inl (tq.1, 1473, .inl c))] H := hP
  have hD : va_D AA [(o0, .inr (2, [.ref wt, .ref wy, .ref pb, .ref pt, .ref pp, .int (nI (nW s))])), (wt, .inl (tq.1, 5, .inl wr)), (pp, .inr (3, [.ref q1, .int ql])), (q1, .inl (tq.1, 60, .inl qf)), (pb, .inr (5, [.ref b1])), (b1, .inl (tq.1, 6, .inl g10)), (h0, .inr (1, [.ref h1])), (h1, .inl (tq.1, 1473, .inl c))] := hD
  refine lv_iconst (v := (nI 0)) hx hb dX2_fillBehind_13 (by decide) ?_
  refine lv_istore_n (lv' := [(3, .int (nI 0)), (0, .ref o0), (1, .ref h0), (2, .int (nI set))]) hx hb dX2_fillBehind_14 rfl hl (by decide) rfl (fun ls hl => ?_)
  have loop15 : ∀ (fu : Nat) (i_ : Nat) (f_ : Row) (l_ : Int32) (p_ : Row) (H : Heap) (locs : List Loc) (ls : Array Slot), (i_ ≤ nW s ∧ SV f_ (setV s set i_)) → nW s - i_ < fu → va_P dg vwCl [(o0, .inr (2, [.ref wt, .ref wy, .ref pb, .ref pt, .ref pp, .int (nI (nW s))])), (wt, .inl (tq.1, 5, .inl wr)), (pb, .inr (5, [.ref b1])), (b1, .inl (tq.1, 6, .inl f_)), (pp, .inr (3, [.ref q1, .int l_])), (q1, .inl (tq.1, 60, .inl p_)), (h0, .inr (1, [.ref h1])), (h1, .inl (tq.1, 1473, .inl c))] H → va_D AA [(o0, .inr (2, [.ref wt, .ref wy, .ref pb, .ref pt, .ref pp, .int (nI (nW s))])), (wt, .inl (tq.1, 5, .inl wr)), (pb, .inr (5, [.ref b1])), (b1, .inl (tq.1, 6, .inl f_)), (pp, .inr (3, [.ref q1, .int l_])), (q1, .inl (tq.1, 60, .inl p_)), (h0, .inr (1, [.ref h1])), (h1, .inl (tq.1, 1473, .inl c))] → va_S AA sS.heap H locs → lv_has ls 4 [(0, .ref o0), (1, .ref h0), (2, .int (nI set)), (3, .int (nI i_))] → W pP ln eE (rmm 3 70) sS mM aA bB mT cC H locs 0 0 QQ (F0 mM 15 ls []) := by
    intro fu
    induction fu with
    | zero => intro i_ f_ l_ p_ H locs ls _ hm; exact absurd hm (Nat.not_lt_zero _)
    | succ fu ih15 =>
      intro i_ f_ l_ p_ H locs ls hinv hm hP hD hS hl
      obtain ⟨hi1, hV2⟩ := hinv
      refine lv_iload_n hx hb dX2_fillBehind_15 rfl (lv_at hl 3 rfl) ?_
      refine lv_aload_n hx hb dX2_fillBehind_16 rfl (lv_at hl 0 rfl) ?_
      refine va_get (D := dg) (ci := 2) (v := .int (nI (nW s))) (C := RX2) (T := TX2) (N := 6) hx hb hts in2 hown hK hP 0 rfl rfl 5 (by decide) f35 (fun _ h9 => h9) rfl dX2_fillBehind_17 ?_
      refine r_icmp_ge (tgt := 62) hx hb (nI_tI (by omega)) (nI_tI (by omega)) dX2_fillBehind_20 (by decide) (fun c20 => ?_) (fun c20 => ?_)
      · skip
        exact hret (f_, l_, p_) H locs _ ls (show SV f_ (setV s set (nW s)) from (by rw [show nW s = i_ by omega]; exact hV2)) (hP.sub [0, 1, 2, 3, 4, 5, 6, 7] rfl) (hD.sub [0, 1, 2, 3, 4, 5, 6, 7] (by decide) rfl) hS dX2_fillBehind_62
      · skip
        refine lv_iload_n hx hb dX2_fillBehind_23 rfl (lv_at hl 2 rfl) ?_
        refine lv_iconst (v := (nI 1)) hx hb dX2_fillBehind_24 (by decide) ?_
        refine lv_iload_n hx hb dX2_fillBehind_25 rfl (lv_at hl 3 rfl) ?_
        refine lv_ishl hx hb dX2_fillBehind_26 ?_
        refine r_top (show ((nI 1) <<< ((nI i_) &&& 31)) = (nI (2 ^ i_)) from shl1 i_ (by omega)) ?_
        refine lv_iand hx hb dX2_fillBehind_27 ?_
        refine r_if_eq (tgt := 56) hx hb rfl dX2_fillBehind_28 (by decide) (fun c28 => ?_) (fun c28 => ?_)
        · skip
          try have c28 := and_f (by omega) (by omega) c28
          refine lv_iinc (v := (nI (i_ + 1))) (lv' := [(3, .int (nI (i_ + 1))), (0, .ref o0), (1, .ref h0), (2, .int (nI set))]) hx hb dX2_fillBehind_56 hl (k := 3) rfl (nI_add _ _) (by decide) rfl (fun ls hl => ?_)
          refine lv_goto (tgt := 15) hx hb dX2_fillBehind_59 (by decide) ?_
          exact ih15 (i_ + 1) f_ l_ p_ H locs ls (by first | exact ⟨by omega, by have e := setV_all s set i_ c28; rw [show setV s set (i_ + 1) = _ from e]; exact hw53⟩ | exact ⟨by omega, by intro a ha; rw [hV2 a ha, setV, c28]; exact congrArg iI (by simp)⟩) (by omega) (hP.sub [0, 1, 2, 3, 4, 5, 6, 7] rfl) (hD.sub [0, 1, 2, 3, 4, 5, 6, 7] (by decide) rfl) hS (lv_sub hl [1, 2, 3, 0] rfl)
        · skip
          have c28 := and_t (by omega) (by omega) c28
          refine lv_aload_n hx hb dX2_fillBehind_31 rfl (lv_at hl 0 rfl) ?_
          refine va_get (D := dg) (ci := 2) (v := .ref pp) (C := RX2) (T := TX2) (N := 6) hx hb hts in2 hown hK hP 0 rfl rfl 4 (by decide) f31 (fun _ h9 => h9) rfl dX2_fillBehind_32 ?_
          obtain ⟨hb1, hb2, hb3⟩ := wB_in (s := s) (k := i_) (by omega)
          have hmn := hW.mn60 hb1
          refine lv_aload_n hx hb dX2_fillBehind_35 rfl (lv_at hl 1 rfl) ?_
          refine lv_aload_n hx hb dX2_fillBehind_36 rfl (lv_at hl 0 rfl) ?_
          refine lv_iload_n hx hb dX2_fillBehind_37 rfl (lv_at hl 3 rfl) ?_
          refine call_x (va_runV (As := [.int (nI i_)]) (rest := [.ref h0, .ref pp]) ⟨hx, hb, hml, hown, hts⟩ (kX2_branchOf ln dg tq (o0 := o0) (wt := wt) (wy := wy) (pb := pb) (pt := pt) (pp := pp) (osz := (nI (nW s))) (wr := wr) (k := i_) (hk := (by omega)) H.size) (cwV 1 hts gX2_fillBehind_X2_branchOf rfl rfl rfl hdX2_branchOf ⟨Nat.le_of_ble_eq_true rfl, Nat.le_of_ble_eq_true rfl⟩) (preVR hK hN hP [0, 1] rfl 0 rfl rfl [.int (nI i_)]) rfl rfl hl.1 rfl (lv_room (Nat.le_of_ble_eq_true rfl)) dX2_fillBehind_38 ⟨Nat.le_refl _, Nat.le_refl _⟩) hP hS hA (fun H locs hP hS => ?_)
          refine r_top (show (wr i_) = (nI (wB s i_)) from hG i_ (by omega)) ?_
          refine call_v (wr := [(o0, .inr (2, [.ref wt, .ref wy, .ref pb, .ref pt, .ref pp, .int (nI (nW s))])), (wt, .inl (tq.1, 5, .inl wr)), (pb, .inr (5, [.ref b1])), (b1, .inl (tq.1, 6, .inl f_))]) (va_runV (As := [.ref h0, .int (nI (wB s i_))]) (rest := []) ⟨hx, hb, hml, hown, hts⟩ (kX3_traceBranch ln dg tq (w0 := pp) (w1 := q1) (len := l_) (pc := p_) (h0 := h0) (h1 := h1) (c := c) (s := s) (hR := hR) (hW := hW) (b := wB s i_) (hb0 := (by omega)) H.size) (cwV 2 hts gX2_fillBehind_X3_traceBranch rfl rfl rfl hdX3_traceBranch ⟨Nat.le_of_ble_eq_true rfl, Nat.le_of_ble_eq_true rfl⟩) (preVB hK hN hP hD [4, 5, 6, 7] rfl rfl rfl 4 rfl rfl [.ref h0, .int (nI (wB s i_))]) rfl rfl hl.1 rfl (lv_room (Nat.le_of_ble_eq_true rfl)) dX2_fillBehind_41 ⟨Nat.le_refl _, Nat.le_refl _⟩) hP hD hS hA [4, 5, 6, 7] [0, 1, 2, 3] rfl rfl (by decide) (by decide) (fun u41 H locs hw41 hP hD hS => ?_)
          obtain ⟨g41, rfl⟩ : ∃ z, z = u41 := ⟨_, rfl⟩
          have hP : va_P dg vwCl [(o0, .inr (2, [.ref wt, .ref wy, .ref pb, .ref pt, .ref pp, .int (nI (nW s))])), (wt, .inl (tq.1, 5, .inl wr)), (pb, .inr (5, [.ref b1])), (b1, .inl (tq.1, 6, .inl f_)), (pp, .inr (3, [.ref q1, .int (nI (mn s (wB s i_)))])), (q1, .inl (tq.1, 60, .inl g41)), (h0, .inr (1, [.ref h1])), (h1, .inl (tq.1, 1473, .inl c))] H := hP
          have hD : va_D AA [(o0, .inr (2, [.ref wt, .ref wy, .ref pb, .ref pt, .ref pp, .int (nI (nW s))])), (wt, .inl (tq.1, 5, .inl wr)), (pb, .inr (5, [.ref b1])), (b1, .inl (tq.1, 6, .inl f_)), (pp, .inr (3, [.ref q1, .int (nI (mn s (wB s i_)))])), (q1, .inl (tq.1, 60, .inl g41)), (h0, .inr (1, [.ref h1])), (h1, .inl (tq.1, 1473, .inl c))] := hD
          refine lv_aload_n hx hb dX2_fillBehind_44 rfl (lv_at hl 0 rfl) ?_
          refine va_get (D := dg) (ci := 2) (v := .ref pb) (C := RX2) (T := TX2) (N := 6) hx hb hts in2 hown hK hP 0 rfl rfl 2 (by decide) f21 (fun _ h9 => h9) rfl dX2_fillBehind_45 ?_
          refine lv_aload_n hx hb dX2_fillBehind_48 rfl (lv_at hl 1 rfl) ?_
          refine lv_aload_n hx hb dX2_fillBehind_49 rfl (lv_at hl 0 rfl) ?_
          refine va_get (D := dg) (ci := 2) (v := .ref pp) (C := RX2) (T := TX2) (N := 6) hx hb hts in2 hown hK hP 0 rfl rfl 4 (by decide) f31 (fun _ h9 => h9) rfl dX2_fillBehind_50 ?_
          refine call_v (wr := [(o0, .inr (2, [.ref wt, .ref wy, .ref pb, .ref pt, .ref pp, .int (nI (nW s))])), (wt, .inl (tq.1, 5, .inl wr))]) (va_runV (As := [.ref h0, .ref pp]) (rest := []) ⟨hx, hb, hml, hown, hts⟩ (kX5_addAll ln dg tq (u0 := pb) (u1 := b1) (f := f_) (h0 := h0) (h1 := h1) (c := c) (s := s) (hR := hR) (hW := hW) (v := setV s set i_) (hV := hV2) (len := mn s (wB s i_)) (w0 := pp) (w1 := q1) (pc := g41) (E := brE s (wB s i_)) (hE := (fun k hk => ⟨hw41 k hk, brE_in hW hb1 hk⟩)) (hlen := (by omega)) H.size) (cwV 2 hts gX2_fillBehind_X5_addAll rfl rfl rfl hdX5_addAll ⟨Nat.le_of_ble_eq_true rfl, Nat.le_of_ble_eq_true rfl⟩) (preVB hK hN hP hD [2, 3, 6, 7, 4, 5] rfl rfl rfl 2 rfl rfl [.ref h0, .ref pp]) rfl rfl hl.1 rfl (lv_room (Nat.le_of_ble_eq_true rfl)) dX2_fillBehind_53 ⟨Nat.le_refl _, Nat.le_refl _⟩) hP hD hS hA [2, 3, 6, 7, 4, 5] [0, 1] rfl rfl (by decide) (by decide) (fun u53 H locs hw53 hP hD hS => ?_)
          obtain ⟨g53, rfl⟩ : ∃ z, z = u53 := ⟨_, rfl⟩
          have hP : va_P dg vwCl [(o0, .inr (2, [.ref wt, .ref wy, .ref pb, .ref pt, .ref pp, .int (nI (nW s))])), (wt, .inl (tq.1, 5, .inl wr)), (pb, .inr (5, [.ref b1])), (b1, .inl (tq.1, 6, .inl g53)), (h0, .inr (1, [.ref h1])), (h1, .inl (tq.1, 1473, .inl c)), (pp, .inr (3, [.ref q1, .int (nI (mn s (wB s i_)))])), (q1, .inl (tq.1, 60, .inl g41))] H := hP
          have hD : va_D AA [(o0, .inr (2, [.ref wt, .ref wy, .ref pb, .ref pt, .ref pp, .int (nI (nW s))])), (wt, .inl (tq.1, 5, .inl wr)), (pb, .inr (5, [.ref b1])), (b1, .inl (tq.1, 6, .inl g53)), (h0, .inr (1, [.ref h1])), (h1, .inl (tq.1, 1473, .inl c)), (pp, .inr (3, [.ref q1, .int (nI (mn s (wB s i_)))])), (q1, .inl (tq.1, 60, .inl g41))] := hD
          try have c28 := and_f (by omega) (by omega) c28
          refine lv_iinc (v := (nI (i_ + 1))) (lv' := [(3, .int (nI (i_ + 1))), (0, .ref o0), (1, .ref h0), (2, .int (nI set))]) hx hb dX2_fillBehind_56 hl (k := 3) rfl (nI_add _ _) (by decide) rfl (fun ls hl => ?_)
          refine lv_goto (tgt := 15) hx hb dX2_fillBehind_59 (by decide) ?_
          exact ih15 (i_ + 1) g53 (nI (mn s (wB s i_))) g41 H locs ls (by first | exact ⟨by omega, by have e := setV_all s set i_ c28; rw [show setV s set (i_ + 1) = _ from e]; exact hw53⟩ | exact ⟨by omega, by intro a ha; rw [hV2 a ha, setV, c28]; exact congrArg iI (by simp)⟩) (by omega) (hP.sub [0, 1, 2, 3, 6, 7, 4, 5] rfl) (hD.sub [0, 1, 2, 3, 6, 7, 4, 5] (by decide) rfl) hS (lv_sub hl [1, 2, 3, 0] rfl)
  exact loop15 _ 0 g10 ql qf H locs ls (⟨by omega, fun a ha => hw10 a ha⟩) (Nat.lt_succ_self _) (hP.sub [0, 1, 4, 5, 2, 3, 6, 7] rfl) (hD.sub [0, 1, 4, 5, 2, 3, 6, 7] (by decide) rfl) hS (lv_sub hl [1, 2, 3, 0] rfl)
theorem hdX2_goOn : yX2_goOn.cls = RX2 ∧ yX2_goOn.cls ≠ "java/lang/invoke/MethodHandle" ∧ yX2_goOn.cls ≠ "java/lang/invoke/VarHandle" ∧ (parseMethodDescriptor yX2_goOn.desc).map (fun d => d.parameters.length) = some 2 := by decide +kernel
set_option maxHeartbeats 4000000 in
set_option maxRecDepth 100000 in
theorem kX2_goOn (ln : Launch) (dg : va_G) (tq : ClassId × ClassId) (o0 wt wy pb pt pp b1 t1 q1 : Nat) (wr wyr bf tf qf : Row) (ql : Int32) (h0 h1 : Nat) (c : Row) (s : Row) (hR : XR s c) (hW : WF s) (h5 : nW s ≤ 5) (hG : ∀ k, k < nW s → wr k = nI (wB s k)) (set : Nat) (hset : set < 2 ^ nW s) (hpos : 0 < (wyr set).toInt) (hB : BV (setV s set (nW s)) 500000) : MV ln yX2_goOn wsX2_goOn (rmm 4 93) dg tq [.ref o0, .ref h0, .int (nI set)] [(o0, .inr (2, [.ref wt, .ref wy, .ref pb, .ref pt, .ref pp, .int (nI (nW s))])), (wt, .inl (tq.1, 5, .inl wr)), (wy, .inl (tq.1, 32, .inl wyr)), (pb, .inr (5, [.ref b1])), (b1, .inl (tq.1, 6, .inl bf)), (pt, .inr (5, [.ref t1])), (t1, .inl (tq.1, 6, .inl tf)), (pp, .inr (3, [.ref q1, .int ql])), (q1, .inl (tq.1, 60, .inl qf)), (h0, .inr (1, [.ref h1])), (h1, .inl (tq.1, 1473, .inl c))] (fun (u : Row × Row × Int32 × Row) => True) (fun u => [(o0, .inr (2, [.ref wt, .ref wy, .ref pb, .ref pt, .ref pp, .int (nI (nW s))])), (wt, .inl (tq.1, 5, .inl wr)), (wy, .inl (tq.1, 32, .inl (ordK s wyr set (nW s)))), (pb, .inr (5, [.ref b1])), (b1, .inl (tq.1, 6, .inl u.1)), (pt, .inr (5, [.ref t1])), (t1, .inl (tq.1, 6, .inl u.2.1)), (pp, .inr (3, [.ref q1, .int u.2.2.1])), (q1, .inl (tq.1, 60, .inl u.2.2.2)), (h0, .inr (1, [.ref h1])), (h1, .inl (tq.1, 1473, .inl c))]) := by
  refine MV.enter cX2_goOn 5 (by decide) rfl rfl (Nat.le_of_ble_eq_true rfl) ?_
  intro pP eE sS mM aA bB mT cC QQ AA hA hAT hret H locs hP hD hS ls hl
  obtain ⟨hx, hb, hml, hown, hts, hK, hN⟩ := hAT
  have hown : sS.vm.findClass RX2 = some mM.cls := hown
  have hl : lv_has ls 5 [(0, .ref o0), (1, .ref h0), (2, .int (nI set))] := hl
  have in2 : ∀ w ∈ u_ws RX2 TX2 6, w ∈ wsX2_goOn := (fun _ h9 => List.mem_cons_of_mem _ (List.mem_append_left _ (List.mem_append_left _ (List.mem_append_left _ (List.mem_append_right _ h9)))))
  have f35 := hts (.fieldLink RX2 35 "OrphanChain$Orders" "size" "I") (List.mem_of_getElem? (i := 1) rfl)
  have f25 := hts (.fieldLink RX2 25 "OrphanChain$Orders" "trial" "LOrphanChain$Purse;") (List.mem_of_getElem? (i := 2) rfl)
  have f21 := hts (.fieldLink RX2 21 "OrphanChain$Orders" "behind" "LOrphanChain$Purse;") (List.mem_of_getElem? (i := 3) rfl)
  have f31 := hts (.fieldLink RX2 31 "OrphanChain$Orders" "path" "LOrphanChain$Path;") (List.mem_of_getElem? (i := 4) rfl)
  have k87 := hts (.constant RX2 87 (-100009)) (List.mem_of_getElem? (i := 5) rfl)
  have hn60 := hW.n60
  have hb10 := hW.b10
  have hs8 := hW.s8
  have h32 := pow5 h5
  have hhn := hW.hn
  refine lv_aload_n hx hb dX2_goOn_0 rfl (lv_at hl 0 rfl) ?_
  refine lv_aload_n hx hb dX2_goOn_1 rfl (lv_at hl 1 rfl) ?_
  refine lv_iload_n hx hb dX2_goOn_2 rfl (lv_at hl 2 rfl) ?_
  refine call_v (wr := [(wy, .inl (tq.1, 32, .inl wyr)), (pt, .inr (5, [.ref t1])), (t1, .inl (tq.1, 6, .inl tf))]) (va_runV (As := [.ref h0, .int (nI set)]) (rest := []) ⟨hx, hb, hml, hown, hts⟩ (kX2_fillBehind ln dg tq (o0 := o0) (wt := wt) (wy := wy) (pb := pb) (pt := pt) (pp := pp) (b1 := b1) (q1 := q1) (wr := wr) (bf := bf) (qf := qf) (ql := ql) (h0 := h0) (h1 := h1) (c := c) (s := s) (hR := hR) (hW := hW) (h5 := (by omega)) (hG := hG) (set := set) (hset := (by omega)) H.size) (cwV 2 hts gX2_goOn_X2_fillBehind rfl rfl rfl hdX2_fillBehind ⟨Nat.le_of_ble_eq_true rfl, Nat.le_of_ble_eq_true rfl⟩) (preVB hK hN hP hD [0, 1, 3, 4, 7, 8, 9, 10] rfl rfl rfl 0 rfl rfl [.ref h0, .int (nI set)]) rfl rfl hl.1 rfl (lv_room (Nat.le_of_ble_eq_true rfl)) dX2_goOn_3 ⟨Nat.le_refl _, Nat.le_refl _⟩) hP hD hS hA [0, 1, 3, 4, 7, 8, 9, 10] [2, 5, 6] rfl rfl (by decide) (by decide) (fun u3 H locs hw3 hP hD hS => ?_)
  obtain ⟨g3, l23, p23⟩ := u3
  have hP : va_P dg vwCl [(wy, .inl (tq.1, 32, .inl wyr)), (pt, .inr (5, [.ref t1])), (t1, .inl (tq.1, 6, .inl tf)), (o0, .inr (2, [.ref wt, .ref wy, .ref pb, .ref pt, .ref pp, .int (nI (nW s))])), (wt, .inl (tq.1, 5, .inl wr)), (pb, .inr (5, [.ref b1])), (b1, .inl (tq.1, 6, .inl g3)), (pp, .inr (3, [.ref q1, .int l23])), (q1, .inl (tq.1, 60, .inl p23)), (h0, .inr (1, [.ref h1])), (h1, .inl (tq.1, 1473, .inl c))] H := hP
  have hD : va_D AA [(wy, .inl (tq.1, 32, .inl wyr)), (pt, .inr (5, [.ref t1])), (t1, .inl (tq.1, 6, .inl tf)), (o0, .inr (2, [.ref wt, .ref wy, .ref pb, .ref pt, .ref pp, .int (nI (nW s))])), (wt, .inl (tq.1, 5, .inl wr)), (pb, .inr (5, [.ref b1])), (b1, .inl (tq.1, 6, .inl g3)), (pp, .inr (3, [.ref q1, .int l23])), (q1, .inl (tq.1, 60, .inl p23)), (h0, .inr (1, [.ref h1])), (h1, .inl (tq.1, 1473, .inl c))] := hD
  refine lv_iconst (v := (nI 0)) hx hb dX2_goOn_6 (by decide) ?_
  refine lv_istore_n (lv' := [(3, .int (nI 0)), (0, .ref o0), (1, .ref h0), (2, .int (nI set))]) hx hb dX2_goOn_7 rfl hl (by decide) rfl (fun ls hl => ?_)
  have loop8 : ∀ (fu : Nat) (i_ : Nat) (y_ : Row) (f_ : Row) (l_ : Int32) (p_ : Row) (H : Heap) (locs : List Loc) (ls : Array Slot), (i_ ≤ nW s ∧ y_ = ordK s wyr set i_) → nW s - i_ < fu → va_P dg vwCl [(o0, .inr (2, [.ref wt, .ref wy, .ref pb, .ref pt, .ref pp, .int (nI (nW s))])), (wt, .inl (tq.1, 5, .inl wr)), (wy, .inl (tq.1, 32, .inl y_)), (pb, .inr (5, [.ref b1])), (b1, .inl (tq.1, 6, .inl g3)), (pt, .inr (5, [.ref t1])), (t1, .inl (tq.1, 6, .inl f_)), (pp, .inr (3, [.ref q1, .int l_])), (q1, .inl (tq.1, 60, .inl p_)), (h0, .inr (1, [.ref h1])), (h1, .inl (tq.1, 1473, .inl c))] H → va_D AA [(o0, .inr (2, [.ref wt, .ref wy, .ref pb, .ref pt, .ref pp, .int (nI (nW s))])), (wt, .inl (tq.1, 5, .inl wr)), (wy, .inl (tq.1, 32, .inl y_)), (pb, .inr (5, [.ref b1])), (b1, .inl (tq.1, 6, .inl g3)), (pt, .inr (5, [.ref t1])), (t1, .inl (tq.1, 6, .inl f_)), (pp, .inr (3, [.ref q1, .int l_])), (q1, .inl (tq.1, 60, .inl p_)), (h0, .inr (1, [.ref h1])), (h1, .inl (tq.1, 1473, .inl c))] → va_S AA sS.heap H locs → lv_has ls 5 [(0, .ref o0), (1, .ref h0), (2, .int (nI set)), (3, .int (nI i_))] → W pP ln eE (rmm 4 93) sS mM aA bB mT cC H locs 0 0 QQ (F0 mM 8 ls []) := by
    intro fu
    induction fu with
    | zero => intro i_ y_ f_ l_ p_ H locs ls _ hm; exact absurd hm (Nat.not_lt_zero _)
    | succ fu ih8 =>
      intro i_ y_ f_ l_ p_ H locs ls hinv hm hP hD hS hl
      obtain ⟨hi1, hi2⟩ := hinv
      have hys : y_ set = wyr set := by rw [hi2, ordK_set]
      refine lv_iload_n hx hb dX2_goOn_8 rfl (lv_at hl 3 rfl) ?_
      refine lv_aload_n hx hb dX2_goOn_9 rfl (lv_at hl 0 rfl) ?_
      refine va_get (D := dg) (ci := 2) (v := .int (nI (nW s))) (C := RX2) (T := TX2) (N := 6) hx hb hts in2 hown hK hP 0 rfl rfl 5 (by decide) f35 (fun _ h9 => h9) rfl dX2_goOn_10 ?_
      refine r_icmp_ge (tgt := 97) hx hb (nI_tI (by omega)) (nI_tI (by omega)) dX2_goOn_13 (by decide) (fun c13 => ?_) (fun c13 => ?_)
      · skip
        have ew : y_ = (ordK s wyr set (nW s)) := by rw [hi2, show i_ = nW s by omega]
        have hP : va_P dg vwCl [(o0, .inr (2, [.ref wt, .ref wy, .ref pb, .ref pt, .ref pp, .int (nI (nW s))])), (wt, .inl (tq.1, 5, .inl wr)), (wy, .inl (tq.1, 32, .inl (ordK s wyr set (nW s)))), (pb, .inr (5, [.ref b1])), (b1, .inl (tq.1, 6, .inl g3)), (pt, .inr (5, [.ref t1])), (t1, .inl (tq.1, 6, .inl f_)), (pp, .inr (3, [.ref q1, .int l_])), (q1, .inl (tq.1, 60, .inl p_)), (h0, .inr (1, [.ref h1])), (h1, .inl (tq.1, 1473, .inl c))] H := by rw [← ew]; exact hP
        have hD : va_D AA [(o0, .inr (2, [.ref wt, .ref wy, .ref pb, .ref pt, .ref pp, .int (nI (nW s))])), (wt, .inl (tq.1, 5, .inl wr)), (wy, .inl (tq.1, 32, .inl (ordK s wyr set (nW s)))), (pb, .inr (5, [.ref b1])), (b1, .inl (tq.1, 6, .inl g3)), (pt, .inr (5, [.ref t1])), (t1, .inl (tq.1, 6, .inl f_)), (pp, .inr (3, [.ref q1, .int l_])), (q1, .inl (tq.1, 60, .inl p_)), (h0, .inr (1, [.ref h1])), (h1, .inl (tq.1, 1473, .inl c))] := by rw [← ew]; exact hD
        exact hret (g3, f_, l_, p_) H locs _ ls (show True from (trivial)) (hP.sub [0, 1, 2, 3, 4, 5, 6, 7, 8, 9, 10] rfl) (hD.sub [0, 1, 2, 3, 4, 5, 6, 7, 8, 9, 10] (by decide) rfl) hS dX2_goOn_97
      · skip
        have hor := or_lt hset (k := i_) (by omega)
        obtain ⟨hb1, hb2, hb3⟩ := wB_in (s := s) (k := i_) (by omega)
        have hmn := hW.mn60 hb1
        refine lv_iload_n hx hb dX2_goOn_16 rfl (lv_at hl 2 rfl) ?_
        refine lv_iconst (v := (nI 1)) hx hb dX2_goOn_17 (by decide) ?_
        refine lv_iload_n hx hb dX2_goOn_18 rfl (lv_at hl 3 rfl) ?_
        refine lv_ishl hx hb dX2_goOn_19 ?_
        refine r_top (show ((nI 1) <<< ((nI i_) &&& 31)) = (nI (2 ^ i_)) from shl1 i_ (by omega)) ?_
        refine lv_ior hx hb dX2_goOn_20 ?_
        refine r_top (show ((nI set) ||| (nI (2 ^ i_))) = (nI (set ||| 2 ^ i_)) from or32 _ (by omega) _ (by omega)) ?_
        refine lv_istore (lv' := [(4, .int (nI (set ||| 2 ^ i_))), (0, .ref o0), (1, .ref h0), (2, .int (nI set)), (3, .int (nI i_))]) hx hb dX2_goOn_21 hl (by decide) rfl (fun ls hl => ?_)
        refine lv_iload hx hb dX2_goOn_23 (lv_at hl 0 rfl) ?_
        refine lv_iload_n hx hb dX2_goOn_25 rfl (lv_at hl 3 rfl) ?_
        refine r_icmp_ne (tgt := 32) hx hb (nI_tI (by omega)) (nI_tI (by omega)) dX2_goOn_26 (by decide) (fun c26 => ?_) (fun c26 => ?_)
        · skip
          have c26 : set.testBit i_ = false := by cases e : set.testBit i_ with
            | false => rfl
            | true => exact absurd (or_eq.mpr e) (by omega)
          refine lv_aload_n hx hb dX2_goOn_32 rfl (lv_at hl 1 rfl) ?_
          refine va_get (D := dg) (ci := 2) (v := .ref pt) (C := RX2) (T := TX2) (N := 6) hx hb hts in2 hown hK hP 0 rfl rfl 3 (by decide) f25 (fun _ h9 => h9) rfl dX2_goOn_33 ?_
          refine lv_aload_n hx hb dX2_goOn_36 rfl (lv_at hl 1 rfl) ?_
          refine va_get (D := dg) (ci := 2) (v := .ref pb) (C := RX2) (T := TX2) (N := 6) hx hb hts in2 hown hK hP 0 rfl rfl 2 (by decide) f21 (fun _ h9 => h9) rfl dX2_goOn_37 ?_
          refine call_v (wr := [(o0, .inr (2, [.ref wt, .ref wy, .ref pb, .ref pt, .ref pp, .int (nI (nW s))])), (wt, .inl (tq.1, 5, .inl wr)), (wy, .inl (tq.1, 32, .inl y_)), (pp, .inr (3, [.ref q1, .int l_])), (q1, .inl (tq.1, 60, .inl p_)), (h0, .inr (1, [.ref h1])), (h1, .inl (tq.1, 1473, .inl c))]) (va_runV (As := [.ref pb]) (rest := []) ⟨hx, hb, hml, hown, hts⟩ (kX5_copyFrom ln dg tq (u0 := pt) (u1 := t1) (f := f_) (t0 := pb) (t1 := b1) (ft := g3) H.size) (cwV 1 hts gX2_goOn_X5_copyFrom rfl rfl rfl hdX5_copyFrom ⟨Nat.le_of_ble_eq_true rfl, Nat.le_of_ble_eq_true rfl⟩) (preVB hK hN hP hD [5, 6, 3, 4] rfl rfl rfl 5 rfl rfl [.ref pb]) rfl rfl hl.1 rfl (lv_room (Nat.le_of_ble_eq_true rfl)) dX2_goOn_40 ⟨Nat.le_refl _, Nat.le_refl _⟩) hP hD hS hA [5, 6, 3, 4] [0, 1, 2, 7, 8, 9, 10] rfl rfl (by decide) (by decide) (fun u40 H locs hw40 hP hD hS => ?_)
          obtain ⟨g40, rfl⟩ : ∃ z, z = u40 := ⟨_, rfl⟩
          have hP : va_P dg vwCl [(o0, .inr (2, [.ref wt, .ref wy, .ref pb, .ref pt, .ref pp, .int (nI (nW s))])), (wt, .inl (tq.1, 5, .inl wr)), (wy, .inl (tq.1, 32, .inl y_)), (pp, .inr (3, [.ref q1, .int l_])), (q1, .inl (tq.1, 60, .inl p_)), (h0, .inr (1, [.ref h1])), (h1, .inl (tq.1, 1473, .inl c)), (pt, .inr (5, [.ref t1])), (t1, .inl (tq.1, 6, .inl g40)), (pb, .inr (5, [.ref b1])), (b1, .inl (tq.1, 6, .inl g3))] H := hP
          have hD : va_D AA [(o0, .inr (2, [.ref wt, .ref wy, .ref pb, .ref pt, .ref pp, .int (nI (nW s))])), (wt, .inl (tq.1, 5, .inl wr)), (wy, .inl (tq.1, 32, .inl y_)), (pp, .inr (3, [.ref q1, .int l_])), (q1, .inl (tq.1, 60, .inl p_)), (h0, .inr (1, [.ref h1])), (h1, .inl (tq.1, 1473, .inl c)), (pt, .inr (5, [.ref t1])), (t1, .inl (tq.1, 6, .inl g40)), (pb, .inr (5, [.ref b1])), (b1, .inl (tq.1, 6, .inl g3))] := hD
          refine lv_aload_n hx hb dX2_goOn_43 rfl (lv_at hl 1 rfl) ?_
          refine va_get (D := dg) (ci := 2) (v := .ref pp) (C := RX2) (T := TX2) (N := 6) hx hb hts in2 hown hK hP 0 rfl rfl 4 (by decide) f31 (fun _ h9 => h9) rfl dX2_goOn_44 ?_
          refine lv_aload_n hx hb dX2_goOn_47 rfl (lv_at hl 2 rfl) ?_
          refine lv_aload_n hx hb dX2_goOn_48 rfl (lv_at hl 1 rfl) ?_
          refine lv_iload_n hx hb dX2_goOn_49 rfl (lv_at hl 4 rfl) ?_
          refine call_x (va_runV (As := [.int (nI i_)]) (rest := [.ref h0, .ref pp]) ⟨hx, hb, hml, hown, hts⟩ (kX2_branchOf ln dg tq (o0 := o0) (wt := wt) (wy := wy) (pb := pb) (pt := pt) (pp := pp) (osz := (nI (nW s))) (wr := wr) (k := i_) (hk := (by omega)) H.size) (cwV 1 hts gX2_goOn_X2_branchOf rfl rfl rfl hdX2_branchOf ⟨Nat.le_of_ble_eq_true rfl, Nat.le_of_ble_eq_true rfl⟩) (preVR hK hN hP [0, 1] rfl 0 rfl rfl [.int (nI i_)]) rfl rfl hl.1 rfl (lv_room (Nat.le_of_ble_eq_true rfl)) dX2_goOn_50 ⟨Nat.le_refl _, Nat.le_refl _⟩) hP hS hA (fun H locs hP hS => ?_)
          refine r_top (show (wr i_) = (nI (wB s i_)) from hG i_ (by omega)) ?_
          refine call_v (wr := [(o0, .inr (2, [.ref wt, .ref wy, .ref pb, .ref pt, .ref pp, .int (nI (nW s))])), (wt, .inl (tq.1, 5, .inl wr)), (wy, .inl (tq.1, 32, .inl y_)), (pt, .inr (5, [.ref t1])), (t1, .inl (tq.1, 6, .inl g40)), (pb, .inr (5, [.ref b1])), (b1, .inl (tq.1, 6, .inl g3))]) (va_runV (As := [.ref h0, .int (nI (wB s i_))]) (rest := []) ⟨hx, hb, hml, hown, hts⟩ (kX3_traceBranch ln dg tq (w0 := pp) (w1 := q1) (len := l_) (pc := p_) (h0 := h0) (h1 := h1) (c := c) (s := s) (hR := hR) (hW := hW) (b := wB s i_) (hb0 := (by omega)) H.size) (cwV 2 hts gX2_goOn_X3_traceBranch rfl rfl rfl hdX3_traceBranch ⟨Nat.le_of_ble_eq_true rfl, Nat.le_of_ble_eq_true rfl⟩) (preVB hK hN hP hD [3, 4, 5, 6] rfl rfl rfl 3 rfl rfl [.ref h0, .int (nI (wB s i_))]) rfl rfl hl.1 rfl (lv_room (Nat.le_of_ble_eq_true rfl)) dX2_goOn_53 ⟨Nat.le_refl _, Nat.le_refl _⟩) hP hD hS hA [3, 4, 5, 6] [0, 1, 2, 7, 8, 9, 10] rfl rfl (by decide) (by decide) (fun u53 H locs hw53 hP hD hS => ?_)
          obtain ⟨g53, rfl⟩ : ∃ z, z = u53 := ⟨_, rfl⟩
          have hP : va_P dg vwCl [(o0, .inr (2, [.ref wt, .ref wy, .ref pb, .ref pt, .ref pp, .int (nI (nW s))])), (wt, .inl (tq.1, 5, .inl wr)), (wy, .inl (tq.1, 32, .inl y_)), (pt, .inr (5, [.ref t1])), (t1, .inl (tq.1, 6, .inl g40)), (pb, .inr (5, [.ref b1])), (b1, .inl (tq.1, 6, .inl g3)), (pp, .inr (3, [.ref q1, .int (nI (mn s (wB s i_)))])), (q1, .inl (tq.1, 60, .inl g53)), (h0, .inr (1, [.ref h1])), (h1, .inl (tq.1, 1473, .inl c))] H := hP
          have hD : va_D AA [(o0, .inr (2, [.ref wt, .ref wy, .ref pb, .ref pt, .ref pp, .int (nI (nW s))])), (wt, .inl (tq.1, 5, .inl wr)), (wy, .inl (tq.1, 32, .inl y_)), (pt, .inr (5, [.ref t1])), (t1, .inl (tq.1, 6, .inl g40)), (pb, .inr (5, [.ref b1])), (b1, .inl (tq.1, 6, .inl g3)), (pp, .inr (3, [.ref q1, .int (nI (mn s (wB s i_)))])), (q1, .inl (tq.1, 60, .inl g53)), (h0, .inr (1, [.ref h1])), (h1, .inl (tq.1, 1473, .inl c))] := hD
          refine lv_aload_n hx hb dX2_goOn_56 rfl (lv_at hl 1 rfl) ?_
          refine va_get (D := dg) (ci := 2) (v := .ref pt) (C := RX2) (T := TX2) (N := 6) hx hb hts in2 hown hK hP 0 rfl rfl 3 (by decide) f25 (fun _ h9 => h9) rfl dX2_goOn_57 ?_
          refine lv_aload_n hx hb dX2_goOn_60 rfl (lv_at hl 2 rfl) ?_
          refine lv_aload_n hx hb dX2_goOn_61 rfl (lv_at hl 1 rfl) ?_
          refine va_get (D := dg) (ci := 2) (v := .ref pp) (C := RX2) (T := TX2) (N := 6) hx hb hts in2 hown hK hP 0 rfl rfl 4 (by decide) f31 (fun _ h9 => h9) rfl dX2_goOn_62 ?_
          refine call_w (wr := [(o0, .inr (2, [.ref wt, .ref wy, .ref pb, .ref pt, .ref pp, .int (nI (nW s))])), (wt, .inl (tq.1, 5, .inl wr)), (wy, .inl (tq.1, 32, .inl y_)), (pb, .inr (5, [.ref b1])), (b1, .inl (tq.1, 6, .inl g3))]) (va_runV (As := [.ref h0, .ref pp]) (rest := []) ⟨hx, hb, hml, hown, hts⟩ (kX5_firstRefused ln dg tq (u0 := pt) (u1 := t1) (f := g40) (h0 := h0) (h1 := h1) (c := c) (s := s) (hR := hR) (hW := hW) (v := setV s set (nW s)) (hV := (fun a ha => by rw [hw40 a ha]; exact hw3 a ha)) (N := 500000) (hB := hB) (hn9 := (by omega)) (len := mn s (wB s i_)) (w0 := pp) (w1 := q1) (pc := g53) (E := brE s (wB s i_)) (hE := (fun k hk => ⟨hw53 k hk, brE_in hW hb1 hk⟩)) (hlen := (by omega)) H.size) (cwV 2 hts gX2_goOn_X5_firstRefused rfl rfl rfl hdX5_firstRefused ⟨Nat.le_of_ble_eq_true rfl, Nat.le_of_ble_eq_true rfl⟩) (preVB hK hN hP hD [3, 4, 9, 10, 7, 8] rfl rfl rfl 3 rfl rfl [.ref h0, .ref pp]) rfl rfl hl.1 rfl (lv_room (Nat.le_of_ble_eq_true rfl)) dX2_goOn_65 ⟨Nat.le_refl _, Nat.le_refl _⟩) hP hD hS hA [3, 4, 9, 10, 7, 8] [0, 1, 2, 5, 6] rfl rfl (by decide) (by decide) (fun r65 u65 H locs hw65 hP hD hS => ?_)
          obtain ⟨g65, rfl⟩ : ∃ z, z = u65 := ⟨_, rfl⟩
          have hP : va_P dg vwCl [(o0, .inr (2, [.ref wt, .ref wy, .ref pb, .ref pt, .ref pp, .int (nI (nW s))])), (wt, .inl (tq.1, 5, .inl wr)), (wy, .inl (tq.1, 32, .inl y_)), (pb, .inr (5, [.ref b1])), (b1, .inl (tq.1, 6, .inl g3)), (pt, .inr (5, [.ref t1])), (t1, .inl (tq.1, 6, .inl g65)), (h0, .inr (1, [.ref h1])), (h1, .inl (tq.1, 1473, .inl c)), (pp, .inr (3, [.ref q1, .int (nI (mn s (wB s i_)))])), (q1, .inl (tq.1, 60, .inl g53))] H := hP
          have hD : va_D AA [(o0, .inr (2, [.ref wt, .ref wy, .ref pb, .ref pt, .ref pp, .int (nI (nW s))])), (wt, .inl (tq.1, 5, .inl wr)), (wy, .inl (tq.1, 32, .inl y_)), (pb, .inr (5, [.ref b1])), (b1, .inl (tq.1, 6, .inl g3)), (pt, .inr (5, [.ref t1])), (t1, .inl (tq.1, 6, .inl g65)), (h0, .inr (1, [.ref h1])), (h1, .inl (tq.1, 1473, .inl c)), (pp, .inr (3, [.ref q1, .int (nI (mn s (wB s i_)))])), (q1, .inl (tq.1, 60, .inl g53))] := hD
          subst hw65
          refine lv_ldc hx hb hown k87 dX2_goOn_68 ?_
          refine r_icmp_ne (tgt := 91) hx hb rfl (by decide : ((-100009) : Int32).toInt = (-100009)) dX2_goOn_70 (by decide) (fun c70 => ?_) (fun c70 => ?_)
          · skip
            refine lv_iinc (v := (nI (i_ + 1))) (lv' := [(3, .int (nI (i_ + 1))), (4, .int (nI (set ||| 2 ^ i_))), (0, .ref o0), (1, .ref h0), (2, .int (nI set))]) hx hb dX2_goOn_91 hl (k := 4) rfl (nI_add _ _) (by decide) rfl (fun ls hl => ?_)
            refine lv_goto (tgt := 8) hx hb dX2_goOn_94 (by decide) ?_
            exact ih8 (i_ + 1) y_ g65 (nI (mn s (wB s i_))) g53 H locs ls (⟨by omega, by rw [ordK, ← hi2, stepK, if_neg (fun z => c70 (congrArg Int32.toInt (of_decide_eq_true z.2.2)))]⟩) (by omega) (hP.sub [0, 1, 2, 3, 4, 5, 6, 9, 10, 7, 8] rfl) (hD.sub [0, 1, 2, 3, 4, 5, 6, 9, 10, 7, 8] (by decide) rfl) hS (lv_sub hl [2, 3, 4, 0] rfl)
          · skip
            refine lv_aload_n hx hb dX2_goOn_73 rfl (lv_at hl 1 rfl) ?_
            refine lv_iload hx hb dX2_goOn_74 (lv_at hl 0 rfl) ?_
            refine lv_aload_n hx hb dX2_goOn_76 rfl (lv_at hl 1 rfl) ?_
            refine lv_iload hx hb dX2_goOn_77 (lv_at hl 0 rfl) ?_
            refine call_x (va_runV (As := [.int (nI (set ||| 2 ^ i_))]) (rest := [.int (nI (set ||| 2 ^ i_)), .ref o0]) ⟨hx, hb, hml, hown, hts⟩ (kX2_waysTo ln dg tq (o0 := o0) (wt := wt) (wy := wy) (pb := pb) (pt := pt) (pp := pp) (osz := (nI (nW s))) (wyr := y_) (k := set ||| 2 ^ i_) (hk := (by omega)) H.size) (cwV 1 hts gX2_goOn_X2_waysTo rfl rfl rfl hdX2_waysTo ⟨Nat.le_of_ble_eq_true rfl, Nat.le_of_ble_eq_true rfl⟩) (preVR hK hN hP [0, 2] rfl 0 rfl rfl [.int (nI (set ||| 2 ^ i_))]) rfl rfl hl.1 rfl (lv_room (Nat.le_of_ble_eq_true rfl)) dX2_goOn_79 ⟨Nat.le_refl _, Nat.le_refl _⟩) hP hS hA (fun H locs hP hS => ?_)
            refine lv_aload_n hx hb dX2_goOn_82 rfl (lv_at hl 1 rfl) ?_
            refine lv_iload_n hx hb dX2_goOn_83 rfl (lv_at hl 3 rfl) ?_
            refine call_x (va_runV (As := [.int (nI set)]) (rest := [.int (y_ (set ||| 2 ^ i_)), .int (nI (set ||| 2 ^ i_)), .ref o0]) ⟨hx, hb, hml, hown, hts⟩ (kX2_waysTo ln dg tq (o0 := o0) (wt := wt) (wy := wy) (pb := pb) (pt := pt) (pp := pp) (osz := (nI (nW s))) (wyr := y_) (k := set) (hk := (by omega)) H.size) (cwV 1 hts gX2_goOn_X2_waysTo rfl rfl rfl hdX2_waysTo ⟨Nat.le_of_ble_eq_true rfl, Nat.le_of_ble_eq_true rfl⟩) (preVR hK hN hP [0, 2] rfl 0 rfl rfl [.int (nI set)]) rfl rfl hl.1 rfl (lv_room (Nat.le_of_ble_eq_true rfl)) dX2_goOn_84 ⟨Nat.le_refl _, Nat.le_refl _⟩) hP hS hA (fun H locs hP hS => ?_)
            refine lv_iadd hx hb dX2_goOn_87 ?_
            refine call_v (wr := [(wt, .inl (tq.1, 5, .inl wr)), (pb, .inr (5, [.ref b1])), (b1, .inl (tq.1, 6, .inl g3)), (pt, .inr (5, [.ref t1])), (t1, .inl (tq.1, 6, .inl g65)), (h0, .inr (1, [.ref h1])), (h1, .inl (tq.1, 1473, .inl c)), (pp, .inr (3, [.ref q1, .int (nI (mn s (wB s i_)))])), (q1, .inl (tq.1, 60, .inl g53))]) (va_runV (As := [.int (nI (set ||| 2 ^ i_)), .int ((y_ (set ||| 2 ^ i_)) + (y_ set))]) (rest := []) ⟨hx, hb, hml, hown, hts⟩ (kX2_setWays ln dg tq (o0 := o0) (wt := wt) (wy := wy) (pb := pb) (pt := pt) (pp := pp) (osz := (nI (nW s))) (wyr := y_) (k := set ||| 2 ^ i_) (v := ((y_ (set ||| 2 ^ i_)) + (y_ set))) (hk := (by omega)) H.size) (cwV 2 hts gX2_goOn_X2_setWays rfl rfl rfl hdX2_setWays ⟨Nat.le_of_ble_eq_true rfl, Nat.le_of_ble_eq_true rfl⟩) (preVB hK hN hP hD [0, 2] rfl rfl rfl 0 rfl rfl [.int (nI (set ||| 2 ^ i_)), .int ((y_ (set ||| 2 ^ i_)) + (y_ set))]) rfl rfl hl.1 rfl (lv_room (Nat.le_of_ble_eq_true rfl)) dX2_goOn_88 ⟨Nat.le_refl _, Nat.le_refl _⟩) hP hD hS hA [0, 2] [1, 3, 4, 5, 6, 7, 8, 9, 10] rfl rfl (by decide) (by decide) (fun u88 H locs hw88 hP hD hS => ?_)
            have hP : va_P dg vwCl [(wt, .inl (tq.1, 5, .inl wr)), (pb, .inr (5, [.ref b1])), (b1, .inl (tq.1, 6, .inl g3)), (pt, .inr (5, [.ref t1])), (t1, .inl (tq.1, 6, .inl g65)), (h0, .inr (1, [.ref h1])), (h1, .inl (tq.1, 1473, .inl c)), (pp, .inr (3, [.ref q1, .int (nI (mn s (wB s i_)))])), (q1, .inl (tq.1, 60, .inl g53)), (o0, .inr (2, [.ref wt, .ref wy, .ref pb, .ref pt, .ref pp, .int (nI (nW s))])), (wy, .inl (tq.1, 32, .inl (upd y_ (set ||| 2 ^ i_) ((y_ (set ||| 2 ^ i_)) + (y_ set)))))] H := hP
            have hD : va_D AA [(wt, .inl (tq.1, 5, .inl wr)), (pb, .inr (5, [.ref b1])), (b1, .inl (tq.1, 6, .inl g3)), (pt, .inr (5, [.ref t1])), (t1, .inl (tq.1, 6, .inl g65)), (h0, .inr (1, [.ref h1])), (h1, .inl (tq.1, 1473, .inl c)), (pp, .inr (3, [.ref q1, .int (nI (mn s (wB s i_)))])), (q1, .inl (tq.1, 60, .inl g53)), (o0, .inr (2, [.ref wt, .ref wy, .ref pb, .ref pt, .ref pp, .int (nI (nW s))])), (wy, .inl (tq.1, 32, .inl (upd y_ (set ||| 2 ^ i_) ((y_ (set ||| 2 ^ i_)) + (y_ set)))))] := hD
            refine lv_iinc (v := (nI (i_ + 1))) (lv' := [(3, .int (nI (i_ + 1))), (4, .int (nI (set ||| 2 ^ i_))), (0, .ref o0), (1, .ref h0), (2, .int (nI set))]) hx hb dX2_goOn_91 hl (k := 4) rfl (nI_add _ _) (by decide) rfl (fun ls hl => ?_)
            refine lv_goto (tgt := 8) hx hb dX2_goOn_94 (by decide) ?_
            exact ih8 (i_ + 1) (upd y_ (set ||| 2 ^ i_) ((y_ (set ||| 2 ^ i_)) + (y_ set))) g65 (nI (mn s (wB s i_))) g53 H locs ls (⟨by omega, by rw [ordK, ← hi2, stepK, if_pos ⟨c26, by rw [hys]; exact hpos, decide_eq_true (i32_eq c70)⟩]⟩) (by omega) (hP.sub [9, 0, 10, 1, 2, 3, 4, 7, 8, 5, 6] rfl) (hD.sub [9, 0, 10, 1, 2, 3, 4, 7, 8, 5, 6] (by decide) rfl) hS (lv_sub hl [2, 3, 4, 0] rfl)
        · skip
          have c26 : set.testBit i_ = true := or_eq.mp (by omega)
          refine lv_goto (tgt := 91) hx hb dX2_goOn_29 (by decide) ?_
          refine lv_iinc (v := (nI (i_ + 1))) (lv' := [(3, .int (nI (i_ + 1))), (4, .int (nI (set ||| 2 ^ i_))), (0, .ref o0), (1, .ref h0), (2, .int (nI set))]) hx hb dX2_goOn_91 hl (k := 4) rfl (nI_add _ _) (by decide) rfl (fun ls hl => ?_)
          refine lv_goto (tgt := 8) hx hb dX2_goOn_94 (by decide) ?_
          exact ih8 (i_ + 1) y_ f_ l_ p_ H locs ls (⟨by omega, by rw [ordK, ← hi2, stepK, if_neg (fun z => Bool.false_ne_true (z.1.symm.trans c26))]⟩) (by omega) (hP.sub [0, 1, 2, 3, 4, 5, 6, 7, 8, 9, 10] rfl) (hD.sub [0, 1, 2, 3, 4, 5, 6, 7, 8, 9, 10] (by decide) rfl) hS (lv_sub hl [2, 3, 4, 0] rfl)
  exact loop8 _ 0 wyr tf l23 p23 H locs ls (⟨by omega, rfl⟩) (Nat.lt_succ_self _) (hP.sub [3, 4, 0, 5, 6, 1, 2, 7, 8, 9, 10] rfl) (hD.sub [3, 4, 0, 5, 6, 1, 2, 7, 8, 9, 10] (by decide) rfl) hS (lv_sub hl [1, 2, 3, 0] rfl)
theorem hdX2_howMany : yX2_howMany.cls = RX2 ∧ yX2_howMany.cls ≠ "java/lang/invoke/MethodHandle" ∧ yX2_howMany.cls ≠ "java/lang/invoke/VarHandle" ∧ (parseMethodDescriptor yX2_howMany.desc).map (fun d => d.parameters.length) = some 1 := by decide +kernel
set_option maxHeartbeats 4000000 in
set_option maxRecDepth 100000 in
theorem kX2_howMany (ln : Launch) (dg : va_G) (tq : ClassId × ClassId) (osz : Int32) (o0 wt wy pb pt pp b1 t1 q1 : Nat) (wr wyr bf tf qf : Row) (ql : Int32) (h0 h1 : Nat) (c : Row) (s : Row) (hR : XR s c) (hW : WF s) (h5 : nW s ≤ 5) : MW ln yX2_howMany wsX2_howMany (rmm 5 117) dg tq [.ref o0, .ref h0] [(o0, .inr (2, [.ref wt, .ref wy, .ref pb, .ref pt, .ref pp, .int osz])), (wt, .inl (tq.1, 5, .inl wr)), (wy, .inl (tq.1, 32, .inl wyr)), (pb, .inr (5, [.ref b1])), (b1, .inl (tq.1, 6, .inl bf)), (pt, .inr (5, [.ref t1])), (t1, .inl (tq.1, 6, .inl tf)), (pp, .inr (3, [.ref q1, .int ql])), (q1, .inl (tq.1, 60, .inl qf)), (h0, .inr (1, [.ref h1])), (h1, .inl (tq.1, 1473, .inl c))] (fun (r : Int32) (u : Row × Row × Row × Row × Int32 × Row) => r = (ordS s (2 ^ nW s) (2 ^ nW s - 1))) (fun u => [(o0, .inr (2, [.ref wt, .ref wy, .ref pb, .ref pt, .ref pp, .int (nI (nW s))])), (wt, .inl (tq.1, 5, .inl u.1)), (wy, .inl (tq.1, 32, .inl u.2.1)), (pb, .inr (5, [.ref b1])), (b1, .inl (tq.1, 6, .inl u.2.2.1)), (pt, .inr (5, [.ref t1])), (t1, .inl (tq.1, 6, .inl u.2.2.2.1)), (pp, .inr (3, [.ref q1, .int u.2.2.2.2.1])), (q1, .inl (tq.1, 60, .inl u.2.2.2.2.2)), (h0, .inr (1, [.ref h1])), (h1, .inl (tq.1, 1473, .inl c))]) := by
  refine MW.enter cX2_howMany 4 .int (by decide) rfl rfl (Nat.le_of_ble_eq_true rfl) ?_
  intro pP eE sS mM aA bB mT cC QQ AA hA hAT hret H locs hP hD hS ls hl
  obtain ⟨hx, hb, hml, hown, hts, hK, hN⟩ := hAT
  have hown : sS.vm.findClass RX2 = some mM.cls := hown
  have hl : lv_has ls 4 [(0, .ref o0), (1, .ref h0)] := hl
  have in2 : ∀ w ∈ u_ws RX2 TX2 6, w ∈ wsX2_howMany := (fun _ h9 => List.mem_cons_of_mem _ (List.mem_append_left _ (List.mem_append_left _ (List.mem_append_left _ (List.mem_append_right _ h9)))))
  have f15 := hts (.fieldLink RX2 15 "OrphanChain$Orders" "ways" "[I") (List.mem_of_getElem? (i := 1) rfl)
  have f35 := hts (.fieldLink RX2 35 "OrphanChain$Orders" "size" "I") (List.mem_of_getElem? (i := 2) rfl)
  have hn60 := hW.n60
  have hb10 := hW.b10
  have hs8 := hW.s8
  have h32 := pow5 h5
  have hpp : 0 < 2 ^ nW s := Nat.pos_of_ne_zero (by simp)
  refine lv_aload_n hx hb dX2_howMany_0 rfl (lv_at hl 0 rfl) ?_
  refine lv_aload_n hx hb dX2_howMany_1 rfl (lv_at hl 1 rfl) ?_
  refine call_v (wr := [(wy, .inl (tq.1, 32, .inl wyr)), (pb, .inr (5, [.ref b1])), (b1, .inl (tq.1, 6, .inl bf)), (pt, .inr (5, [.ref t1])), (t1, .inl (tq.1, 6, .inl tf)), (pp, .inr (3, [.ref q1, .int ql])), (q1, .inl (tq.1, 60, .inl qf))]) (va_runV (As := [.ref h0]) (rest := []) ⟨hx, hb, hml, hown, hts⟩ (kX2_gather ln dg tq (o0 := o0) (wt := wt) (wy := wy) (pb := pb) (pt := pt) (pp := pp) (osz := osz) (wr := wr) (h0 := h0) (h1 := h1) (c := c) (s := s) (hR := hR) (hW := hW) (h5 := (by omega)) H.size) (cwV 1 hts gX2_howMany_X2_gather rfl rfl rfl hdX2_gather ⟨Nat.le_of_ble_eq_true rfl, Nat.le_of_ble_eq_true rfl⟩) (preVB hK hN hP hD [0, 1, 9, 10] rfl rfl rfl 0 rfl rfl [.ref h0]) rfl rfl hl.1 rfl (lv_room (Nat.le_of_ble_eq_true rfl)) dX2_howMany_2 ⟨Nat.le_refl _, Nat.le_refl _⟩) hP hD hS hA [0, 1, 9, 10] [2, 3, 4, 5, 6, 7, 8] rfl rfl (by decide) (by decide) (fun u2 H locs hw2 hP hD hS => ?_)
  obtain ⟨g2, rfl⟩ : ∃ z, z = u2 := ⟨_, rfl⟩
  have hP : va_P dg vwCl [(wy, .inl (tq.1, 32, .inl wyr)), (pb, .inr (5, [.ref b1])), (b1, .inl (tq.1, 6, .inl bf)), (pt, .inr (5, [.ref t1])), (t1, .inl (tq.1, 6, .inl tf)), (pp, .inr (3, [.ref q1, .int ql])), (q1, .inl (tq.1, 60, .inl qf)), (o0, .inr (2, [.ref wt, .ref wy, .ref pb, .ref pt, .ref pp, .int (nI (nW s))])), (wt, .inl (tq.1, 5, .inl g2)), (h0, .inr (1, [.ref h1])), (h1, .inl (tq.1, 1473, .inl c))] H := hP
  have hD : va_D AA [(wy, .inl (tq.1, 32, .inl wyr)), (pb, .inr (5, [.ref b1])), (b1, .inl (tq.1, 6, .inl bf)), (pt, .inr (5, [.ref t1])), (t1, .inl (tq.1, 6, .inl tf)), (pp, .inr (3, [.ref q1, .int ql])), (q1, .inl (tq.1, 60, .inl qf)), (o0, .inr (2, [.ref wt, .ref wy, .ref pb, .ref pt, .ref pp, .int (nI (nW s))])), (wt, .inl (tq.1, 5, .inl g2)), (h0, .inr (1, [.ref h1])), (h1, .inl (tq.1, 1473, .inl c))] := hD
  refine lv_aload_n hx hb dX2_howMany_5 rfl (lv_at hl 0 rfl) ?_
  refine va_get (D := dg) (ci := 2) (v := .ref wy) (C := RX2) (T := TX2) (N := 6) hx hb hts in2 hown hK hP 7 rfl rfl 1 (by decide) f15 (fun _ h9 => h9) rfl dX2_howMany_6 ?_
  refine lv_iconst (v := (nI 0)) hx hb dX2_howMany_9 (by decide) ?_
  refine call_v (wr := [(pb, .inr (5, [.ref b1])), (b1, .inl (tq.1, 6, .inl bf)), (pt, .inr (5, [.ref t1])), (t1, .inl (tq.1, 6, .inl tf)), (pp, .inr (3, [.ref q1, .int ql])), (q1, .inl (tq.1, 60, .inl qf)), (o0, .inr (2, [.ref wt, .ref wy, .ref pb, .ref pt, .ref pp, .int (nI (nW s))])), (wt, .inl (tq.1, 5, .inl g2)), (h0, .inr (1, [.ref h1])), (h1, .inl (tq.1, 1473, .inl c))]) (va_runS (As := [.ref wy, .int (nI 0)]) (rest := []) ⟨hx, hb, hml, hown, hts⟩ (kJ7_fill_53178 ln dg tq (a0 := wy) (n := 32) (f := wyr) (v := (nI 0)) (hn := (by omega)) H.size) (va_cwS 2 hts gX2_howMany_J7_fill_53178 rfl rfl rfl hdJ7_fill_53178.2 ⟨Nat.le_of_ble_eq_true rfl, Nat.le_of_ble_eq_true rfl⟩) (preSB hK hN hP hD [0] rfl rfl rfl [.ref wy, .int (nI 0)]) rfl rfl hl.1 rfl (lv_room (Nat.le_of_ble_eq_true rfl)) dX2_howMany_10 ⟨Nat.le_refl _, Nat.le_refl _⟩) hP hD hS hA [0] [1, 2, 3, 4, 5, 6, 7, 8, 9, 10] rfl rfl (by decide) (by decide) (fun u10 H locs hw10 hP hD hS => ?_)
  obtain ⟨g10, rfl⟩ : ∃ z, z = u10 := ⟨_, rfl⟩
  have hP : va_P dg vwCl [(pb, .inr (5, [.ref b1])), (b1, .inl (tq.1, 6, .inl bf)), (pt, .inr (5, [.ref t1])), (t1, .inl (tq.1, 6, .inl tf)), (pp, .inr (3, [.ref q1, .int ql])), (q1, .inl (tq.1, 60, .inl qf)), (o0, .inr (2, [.ref wt, .ref wy, .ref pb, .ref pt, .ref pp, .int (nI (nW s))])), (wt, .inl (tq.1, 5, .inl g2)), (h0, .inr (1, [.ref h1])), (h1, .inl (tq.1, 1473, .inl c)), (wy, .inl (tq.1, 32, .inl g10))] H := hP
  have hD : va_D AA [(pb, .inr (5, [.ref b1])), (b1, .inl (tq.1, 6, .inl bf)), (pt, .inr (5, [.ref t1])), (t1, .inl (tq.1, 6, .inl tf)), (pp, .inr (3, [.ref q1, .int ql])), (q1, .inl (tq.1, 60, .inl qf)), (o0, .inr (2, [.ref wt, .ref wy, .ref pb, .ref pt, .ref pp, .int (nI (nW s))])), (wt, .inl (tq.1, 5, .inl g2)), (h0, .inr (1, [.ref h1])), (h1, .inl (tq.1, 1473, .inl c)), (wy, .inl (tq.1, 32, .inl g10))] := hD
  refine lv_aload_n hx hb dX2_howMany_13 rfl (lv_at hl 0 rfl) ?_
  refine lv_iconst (v := (nI 0)) hx hb dX2_howMany_14 (by decide) ?_
  refine lv_iconst (v := (nI 1)) hx hb dX2_howMany_15 (by decide) ?_
  refine call_v (wr := [(pb, .inr (5, [.ref b1])), (b1, .inl (tq.1, 6, .inl bf)), (pt, .inr (5, [.ref t1])), (t1, .inl (tq.1, 6, .inl tf)), (pp, .inr (3, [.ref q1, .int ql])), (q1, .inl (tq.1, 60, .inl qf)), (wt, .inl (tq.1, 5, .inl g2)), (h0, .inr (1, [.ref h1])), (h1, .inl (tq.1, 1473, .inl c))]) (va_runV (As := [.int (nI 0), .int (nI 1)]) (rest := []) ⟨hx, hb, hml, hown, hts⟩ (kX2_setWays ln dg tq (o0 := o0) (wt := wt) (wy := wy) (pb := pb) (pt := pt) (pp := pp) (osz := (nI (nW s))) (wyr := g10) (k := 0) (v := (nI 1)) (hk := (by omega)) H.size) (cwV 2 hts gX2_howMany_X2_setWays rfl rfl rfl hdX2_setWays ⟨Nat.le_of_ble_eq_true rfl, Nat.le_of_ble_eq_true rfl⟩) (preVB hK hN hP hD [6, 10] rfl rfl rfl 6 rfl rfl [.int (nI 0), .int (nI 1)]) rfl rfl hl.1 rfl (lv_room (Nat.le_of_ble_eq_true rfl)) dX2_howMany_16 ⟨Nat.le_refl _, Nat.le_refl _⟩) hP hD hS hA [6, 10] [0, 1, 2, 3, 4, 5, 7, 8, 9] rfl rfl (by decide) (by decide) (fun u16 H locs hw16 hP hD hS => ?_)
  have hP : va_P dg vwCl [(pb, .inr (5, [.ref b1])), (b1, .inl (tq.1, 6, .inl bf)), (pt, .inr (5, [.ref t1])), (t1, .inl (tq.1, 6, .inl tf)), (pp, .inr (3, [.ref q1, .int ql])), (q1, .inl (tq.1, 60, .inl qf)), (wt, .inl (tq.1, 5, .inl g2)), (h0, .inr (1, [.ref h1])), (h1, .inl (tq.1, 1473, .inl c)), (o0, .inr (2, [.ref wt, .ref wy, .ref pb, .ref pt, .ref pp, .int (nI (nW s))])), (wy, .inl (tq.1, 32, .inl (upd g10 0 (nI 1))))] H := hP
  have hD : va_D AA [(pb, .inr (5, [.ref b1])), (b1, .inl (tq.1, 6, .inl bf)), (pt, .inr (5, [.ref t1])), (t1, .inl (tq.1, 6, .inl tf)), (pp, .inr (3, [.ref q1, .int ql])), (q1, .inl (tq.1, 60, .inl qf)), (wt, .inl (tq.1, 5, .inl g2)), (h0, .inr (1, [.ref h1])), (h1, .inl (tq.1, 1473, .inl c)), (o0, .inr (2, [.ref wt, .ref wy, .ref pb, .ref pt, .ref pp, .int (nI (nW s))])), (wy, .inl (tq.1, 32, .inl (upd g10 0 (nI 1))))] := hD
  refine lv_iconst (v := (nI 1)) hx hb dX2_howMany_19 (by decide) ?_
  refine lv_aload_n hx hb dX2_howMany_20 rfl (lv_at hl 0 rfl) ?_
  refine va_get (D := dg) (ci := 2) (v := .int (nI (nW s))) (C := RX2) (T := TX2) (N := 6) hx hb hts in2 hown hK hP 9 rfl rfl 5 (by decide) f35 (fun _ h9 => h9) rfl dX2_howMany_21 ?_
  refine lv_ishl hx hb dX2_howMany_24 ?_
  refine r_top (show ((nI 1) <<< ((nI (nW s)) &&& 31)) = (nI (2 ^ nW s)) from shl1 _ (by omega)) ?_
  refine lv_istore_n (lv' := [(2, .int (nI (2 ^ nW s))), (0, .ref o0), (1, .ref h0)]) hx hb dX2_howMany_25 rfl hl (by decide) rfl (fun ls hl => ?_)
  refine lv_iconst (v := (nI 0)) hx hb dX2_howMany_26 (by decide) ?_
  refine lv_istore_n (lv' := [(3, .int (nI 0)), (2, .int (nI (2 ^ nW s))), (0, .ref o0), (1, .ref h0)]) hx hb dX2_howMany_27 rfl hl (by decide) rfl (fun ls hl => ?_)
  have loop28 : ∀ (fu : Nat) (t_ : Nat) (y_ : Row) (f_ : Row) (g_ : Row) (l_ : Int32) (p_ : Row) (H : Heap) (locs : List Loc) (ls : Array Slot), (t_ ≤ 2 ^ nW s ∧ (∀ i, i < 32 → y_ i = ordS s t_ i)) → 2 ^ nW s - t_ < fu → va_P dg vwCl [(o0, .inr (2, [.ref wt, .ref wy, .ref pb, .ref pt, .ref pp, .int (nI (nW s))])), (wt, .inl (tq.1, 5, .inl g2)), (wy, .inl (tq.1, 32, .inl y_)), (pb, .inr (5, [.ref b1])), (b1, .inl (tq.1, 6, .inl f_)), (pt, .inr (5, [.ref t1])), (t1, .inl (tq.1, 6, .inl g_)), (pp, .inr (3, [.ref q1, .int l_])), (q1, .inl (tq.1, 60, .inl p_)), (h0, .inr (1, [.ref h1])), (h1, .inl (tq.1, 1473, .inl c))] H → va_D AA [(o0, .inr (2, [.ref wt, .ref wy, .ref pb, .ref pt, .ref pp, .int (nI (nW s))])), (wt, .inl (tq.1, 5, .inl g2)), (wy, .inl (tq.1, 32, .inl y_)), (pb, .inr (5, [.ref b1])), (b1, .inl (tq.1, 6, .inl f_)), (pt, .inr (5, [.ref t1])), (t1, .inl (tq.1, 6, .inl g_)), (pp, .inr (3, [.ref q1, .int l_])), (q1, .inl (tq.1, 60, .inl p_)), (h0, .inr (1, [.ref h1])), (h1, .inl (tq.1, 1473, .inl c))] → va_S AA sS.heap H locs → lv_has ls 4 [(0, .ref o0), (1, .ref h0), (2, .int (nI (2 ^ nW s))), (3, .int (nI t_))] → W pP ln eE (rmm 5 117) sS mM aA bB mT cC H locs 0 0 QQ (F0 mM 28 ls []) := by
    intro fu
    induction fu with
    | zero => intro t_ y_ f_ g_ l_ p_ H locs ls _ hm; exact absurd hm (Nat.not_lt_zero _)
    | succ fu ih28 =>
      intro t_ y_ f_ g_ l_ p_ H locs ls hinv hm hP hD hS hl
      obtain ⟨hi1, hi2⟩ := hinv
      refine lv_iload_n hx hb dX2_howMany_28 rfl (lv_at hl 3 rfl) ?_
      refine lv_iload_n hx hb dX2_howMany_29 rfl (lv_at hl 2 rfl) ?_
      refine r_icmp_ge (tgt := 53) hx hb (nI_tI (by omega)) (nI_tI (by omega)) dX2_howMany_30 (by decide) (fun c30 => ?_) (fun c30 => ?_)
      · skip
        refine lv_aload_n hx hb dX2_howMany_53 rfl (lv_at hl 0 rfl) ?_
        refine lv_iload_n hx hb dX2_howMany_54 rfl (lv_at hl 2 rfl) ?_
        refine lv_iconst (v := (nI 1)) hx hb dX2_howMany_55 (by decide) ?_
        refine r_isub_n hx hb (by omega) dX2_howMany_56 ?_
        refine call_x (va_runV (As := [.int (nI ((2 ^ nW s) - 1))]) (rest := []) ⟨hx, hb, hml, hown, hts⟩ (kX2_waysTo ln dg tq (o0 := o0) (wt := wt) (wy := wy) (pb := pb) (pt := pt) (pp := pp) (osz := (nI (nW s))) (wyr := y_) (k := (2 ^ nW s) - 1) (hk := (by omega)) H.size) (cwV 1 hts gX2_howMany_X2_waysTo rfl rfl rfl hdX2_waysTo ⟨Nat.le_of_ble_eq_true rfl, Nat.le_of_ble_eq_true rfl⟩) (preVR hK hN hP [0, 2] rfl 0 rfl rfl [.int (nI ((2 ^ nW s) - 1))]) rfl rfl hl.1 rfl (lv_room (Nat.le_of_ble_eq_true rfl)) dX2_howMany_57 ⟨Nat.le_refl _, Nat.le_refl _⟩) hP hS hA (fun H locs hP hS => ?_)
        exact hret (y_ ((2 ^ nW s) - 1)) (g2, y_, f_, g_, l_, p_) H locs _ ls (show (y_ ((2 ^ nW s) - 1)) = (ordS s (2 ^ nW s) (2 ^ nW s - 1)) from (by rw [hi2 _ (by omega), show t_ = 2 ^ nW s by omega])) rfl (hP.sub [0, 1, 2, 3, 4, 5, 6, 7, 8, 9, 10] rfl) (hD.sub [0, 1, 2, 3, 4, 5, 6, 7, 8, 9, 10] (by decide) rfl) hS dX2_howMany_60
      · skip
        refine lv_aload_n hx hb dX2_howMany_33 rfl (lv_at hl 0 rfl) ?_
        refine lv_iload_n hx hb dX2_howMany_34 rfl (lv_at hl 3 rfl) ?_
        refine call_x (va_runV (As := [.int (nI t_)]) (rest := []) ⟨hx, hb, hml, hown, hts⟩ (kX2_waysTo ln dg tq (o0 := o0) (wt := wt) (wy := wy) (pb := pb) (pt := pt) (pp := pp) (osz := (nI (nW s))) (wyr := y_) (k := t_) (hk := (by omega)) H.size) (cwV 1 hts gX2_howMany_X2_waysTo rfl rfl rfl hdX2_waysTo ⟨Nat.le_of_ble_eq_true rfl, Nat.le_of_ble_eq_true rfl⟩) (preVR hK hN hP [0, 2] rfl 0 rfl rfl [.int (nI t_)]) rfl rfl hl.1 rfl (lv_room (Nat.le_of_ble_eq_true rfl)) dX2_howMany_35 ⟨Nat.le_refl _, Nat.le_refl _⟩) hP hS hA (fun H locs hP hS => ?_)
        refine r_if_le (tgt := 47) hx hb rfl dX2_howMany_38 (by decide) (fun c38 => ?_) (fun c38 => ?_)
        · skip
          refine lv_iinc (v := (nI (t_ + 1))) (lv' := [(3, .int (nI (t_ + 1))), (0, .ref o0), (1, .ref h0), (2, .int (nI (2 ^ nW s)))]) hx hb dX2_howMany_47 hl (k := 3) rfl (nI_add _ _) (by decide) rfl (fun ls hl => ?_)
          refine lv_goto (tgt := 28) hx hb dX2_howMany_50 (by decide) ?_
          exact ih28 (t_ + 1) y_ f_ g_ l_ p_ H locs ls (by first | exact ⟨by omega, fun i hi => by rw [ordK_cong h5 (by omega) hi2 (Nat.le_refl _) i hi]; rfl⟩ | exact ⟨by omega, fun i hi => by rw [hi2 i hi, ordS, ordK_no (by rw [← hi2 t_ (by omega)]; omega)]⟩) (by omega) (hP.sub [0, 1, 2, 3, 4, 5, 6, 7, 8, 9, 10] rfl) (hD.sub [0, 1, 2, 3, 4, 5, 6, 7, 8, 9, 10] (by decide) rfl) hS (lv_sub hl [1, 2, 3, 0] rfl)
        · skip
          refine lv_aload_n hx hb dX2_howMany_41 rfl (lv_at hl 0 rfl) ?_
          refine lv_aload_n hx hb dX2_howMany_42 rfl (lv_at hl 1 rfl) ?_
          refine lv_iload_n hx hb dX2_howMany_43 rfl (lv_at hl 3 rfl) ?_
          refine call_v (wr := []) (va_runV (As := [.ref h0, .int (nI t_)]) (rest := []) ⟨hx, hb, hml, hown, hts⟩ (kX2_goOn ln dg tq (o0 := o0) (wt := wt) (wy := wy) (pb := pb) (pt := pt) (pp := pp) (b1 := b1) (t1 := t1) (q1 := q1) (wr := g2) (wyr := y_) (bf := f_) (tf := g_) (qf := p_) (ql := l_) (h0 := h0) (h1 := h1) (c := c) (s := s) (hR := hR) (hW := hW) (h5 := (by omega)) (hG := hw2) (set := t_) (hset := (by omega)) (hpos := (by omega)) (hB := (ordS_ok hW h5 hi1 t_ (by omega) (fun z => by rw [← hi2 t_ (by omega)] at z; rw [z] at c38; exact absurd c38 (by decide)))) H.size) (cwV 2 hts gX2_howMany_X2_goOn rfl rfl rfl hdX2_goOn ⟨Nat.le_of_ble_eq_true rfl, Nat.le_of_ble_eq_true rfl⟩) (preVB hK hN hP hD [0, 1, 2, 3, 4, 5, 6, 7, 8, 9, 10] rfl rfl rfl 0 rfl rfl [.ref h0, .int (nI t_)]) rfl rfl hl.1 rfl (lv_room (Nat.le_of_ble_eq_true rfl)) dX2_howMany_44 ⟨Nat.le_refl _, Nat.le_refl _⟩) hP hD hS hA [0, 1, 2, 3, 4, 5, 6, 7, 8, 9, 10] [] rfl rfl (by decide) (by decide) (fun u44 H locs hw44 hP hD hS => ?_)
          obtain ⟨gb44, gt44, l244, p244⟩ := u44
          have hP : va_P dg vwCl [(o0, .inr (2, [.ref wt, .ref wy, .ref pb, .ref pt, .ref pp, .int (nI (nW s))])), (wt, .inl (tq.1, 5, .inl g2)), (wy, .inl (tq.1, 32, .inl (ordK s y_ t_ ((nW s))))), (pb, .inr (5, [.ref b1])), (b1, .inl (tq.1, 6, .inl gb44)), (pt, .inr (5, [.ref t1])), (t1, .inl (tq.1, 6, .inl gt44)), (pp, .inr (3, [.ref q1, .int l244])), (q1, .inl (tq.1, 60, .inl p244)), (h0, .inr (1, [.ref h1])), (h1, .inl (tq.1, 1473, .inl c))] H := hP
          have hD : va_D AA [(o0, .inr (2, [.ref wt, .ref wy, .ref pb, .ref pt, .ref pp, .int (nI (nW s))])), (wt, .inl (tq.1, 5, .inl g2)), (wy, .inl (tq.1, 32, .inl (ordK s y_ t_ ((nW s))))), (pb, .inr (5, [.ref b1])), (b1, .inl (tq.1, 6, .inl gb44)), (pt, .inr (5, [.ref t1])), (t1, .inl (tq.1, 6, .inl gt44)), (pp, .inr (3, [.ref q1, .int l244])), (q1, .inl (tq.1, 60, .inl p244)), (h0, .inr (1, [.ref h1])), (h1, .inl (tq.1, 1473, .inl c))] := hD
          refine lv_iinc (v := (nI (t_ + 1))) (lv' := [(3, .int (nI (t_ + 1))), (0, .ref o0), (1, .ref h0), (2, .int (nI (2 ^ nW s)))]) hx hb dX2_howMany_47 hl (k := 3) rfl (nI_add _ _) (by decide) rfl (fun ls hl => ?_)
          refine lv_goto (tgt := 28) hx hb dX2_howMany_50 (by decide) ?_
          exact ih28 (t_ + 1) (ordK s y_ t_ ((nW s))) gb44 gt44 l244 p244 H locs ls (by first | exact ⟨by omega, fun i hi => by rw [ordK_cong h5 (by omega) hi2 (Nat.le_refl _) i hi]; rfl⟩ | exact ⟨by omega, fun i hi => by rw [hi2 i hi, ordS, ordK_no (by rw [← hi2 t_ (by omega)]; omega)]⟩) (by omega) (hP.sub [0, 1, 2, 3, 4, 5, 6, 7, 8, 9, 10] rfl) (hD.sub [0, 1, 2, 3, 4, 5, 6, 7, 8, 9, 10] (by decide) rfl) hS (lv_sub hl [1, 2, 3, 0] rfl)
  exact loop28 _ 0 (upd g10 0 (nI 1)) bf tf ql qf H locs ls (⟨by omega, fun i hi => by by_cases e0 : i = 0; (rw [e0, pk_us]; rfl); (rw [pk_un e0, hw10 i hi]; exact (if_neg e0).symm)⟩) (Nat.lt_succ_self _) (hP.sub [9, 6, 10, 0, 1, 2, 3, 4, 5, 7, 8] rfl) (hD.sub [9, 6, 10, 0, 1, 2, 3, 4, 5, 7, 8] (by decide) rfl) hS (lv_sub hl [2, 3, 1, 0] rfl)
