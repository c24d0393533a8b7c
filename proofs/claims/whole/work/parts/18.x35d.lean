theorem hdX5_total : yX5_total.cls = RX5 ∧ yX5_total.cls ≠ "java/lang/invoke/MethodHandle" ∧ yX5_total.cls ≠ "java/lang/invoke/VarHandle" ∧ (parseMethodDescriptor yX5_total.desc).map (fun d => d.parameters.length) = some 0 := by decide +kernel
set_option maxHeartbeats 4000000 in
set_option maxRecDepth 100000 in
theorem kX5_total (ln : Launch) (dg : va_G) (tq : ClassId × ClassId) (u0 u1 : Nat) (f : Row) : MR ln yX5_total wsX5_total (rmm 1 21) dg tq [.ref u0] [(u0, .inr (5, [.ref u1])), (u1, .inl (tq.1, 6, .inl f))] (fun r => r = (totF f 6)) := by
  refine MR.enter cX5_total 3 .int (by decide) rfl rfl (Nat.le_of_ble_eq_true rfl) ?_
  intro pP eE sS mM aA bB mT cC QQ AA hA hAT hret H locs hP hS ls hl
  obtain ⟨hx, hb, hml, hown, hts, hK, hN⟩ := hAT
  have hown : sS.vm.findClass RX5 = some mM.cls := hown
  have hl : lv_has ls 3 [(0, .ref u0)] := hl
  refine lv_iconst (v := (nI 0)) hx hb dX5_total_0 (by decide) ?_
  refine lv_istore_n (lv' := [(1, .int (nI 0)), (0, .ref u0)]) hx hb dX5_total_1 rfl hl (by decide) rfl (fun ls hl => ?_)
  refine lv_iconst (v := (nI 0)) hx hb dX5_total_2 (by decide) ?_
  refine lv_istore_n (lv' := [(2, .int (nI 0)), (1, .int (nI 0)), (0, .ref u0)]) hx hb dX5_total_3 rfl hl (by decide) rfl (fun ls hl => ?_)
  have loop4 : ∀ (fu : Nat) (i_ : Nat) (x_ : Int32) (H : Heap) (locs : List Loc) (ls : Array Slot), (x_ = totF f i_ ∧ i_ ≤ 6) → 6 - i_ < fu → va_P dg vwCl [(u0, .inr (5, [.ref u1])), (u1, .inl (tq.1, 6, .inl f))] H → va_S AA sS.heap H locs → lv_has ls 3 [(0, .ref u0), (1, .int x_), (2, .int (nI i_))] → W pP ln eE (rmm 1 21) sS mM aA bB mT cC H locs 0 0 QQ (F0 mM 4 ls []) := by
    intro fu
    induction fu with
    | zero => intro i_ x_ H locs ls _ hm; exact absurd hm (Nat.not_lt_zero _)
    | succ fu ih4 =>
      intro i_ x_ H locs ls hinv hm hP hS hl
      obtain ⟨hi1, hi2⟩ := hinv
      refine lv_iload_n hx hb dX5_total_4 rfl (lv_at hl 2 rfl) ?_
      refine lv_bipush (v := (nI 6)) hx hb dX5_total_5 (by decide) ?_
      refine r_icmp_ge (tgt := 24) hx hb (nI_tI (by omega)) (nI_tI (by omega)) dX5_total_7 (by decide) (fun c7 => ?_) (fun c7 => ?_)
      · skip
        refine lv_iload_n hx hb dX5_total_24 rfl (lv_at hl 1 rfl) ?_
        exact hret x_ H locs _ ls (by rw [hi1, show i_ = 6 by omega]) rfl hS dX5_total_25
      · skip
        refine lv_iload_n hx hb dX5_total_10 rfl (lv_at hl 1 rfl) ?_
        refine lv_aload_n hx hb dX5_total_11 rfl (lv_at hl 0 rfl) ?_
        refine lv_iload_n hx hb dX5_total_12 rfl (lv_at hl 2 rfl) ?_
        refine call_x (va_runV (As := [.int (nI i_)]) (rest := [.int x_]) ⟨hx, hb, hml, hown, hts⟩ (kX5_sum ln dg tq (u0 := u0) (u1 := u1) (f := f) (a := i_) (ha := (by omega)) H.size) (cwV 1 hts gX5_total_X5_sum rfl rfl rfl hdX5_sum ⟨Nat.le_of_ble_eq_true rfl, Nat.le_of_ble_eq_true rfl⟩) (preVR hK hN hP [0, 1] rfl 0 rfl rfl [.int (nI i_)]) rfl rfl hl.1 rfl (lv_room (Nat.le_of_ble_eq_true rfl)) dX5_total_13 ⟨Nat.le_refl _, Nat.le_refl _⟩) hP hS hA (fun H locs hP hS => ?_)
        refine lv_iadd hx hb dX5_total_16 ?_
        refine lv_istore_n (lv' := [(1, .int (x_ + (f i_))), (0, .ref u0), (2, .int (nI i_))]) hx hb dX5_total_17 rfl hl (by decide) rfl (fun ls hl => ?_)
        refine lv_iinc (v := (nI (i_ + 1))) (lv' := [(2, .int (nI (i_ + 1))), (1, .int (x_ + (f i_))), (0, .ref u0)]) hx hb dX5_total_18 hl (k := 2) rfl (nI_add _ _) (by decide) rfl (fun ls hl => ?_)
        refine lv_goto (tgt := 4) hx hb dX5_total_21 (by decide) ?_
        exact ih4 (i_ + 1) (x_ + (f i_)) H locs ls (⟨by rw [hi1]; rfl, by omega⟩) (by omega) (hP.sub [0, 1] rfl) hS (lv_sub hl [2, 1, 0] rfl)
  exact loop4 _ 0 (nI 0) H locs ls (⟨rfl, by omega⟩) (Nat.lt_succ_self _) (hP.sub [0, 1] rfl) hS (lv_sub hl [2, 1, 0] rfl)
theorem hdX5_affords : yX5_affords.cls = RX5 ∧ yX5_affords.cls ≠ "java/lang/invoke/MethodHandle" ∧ yX5_affords.cls ≠ "java/lang/invoke/VarHandle" ∧ (parseMethodDescriptor yX5_affords.desc).map (fun d => d.parameters.length) = some 3 := by decide +kernel
set_option maxHeartbeats 4000000 in
set_option maxRecDepth 100000 in
theorem kX5_affords (ln : Launch) (dg : va_G) (tq : ClassId × ClassId) (u0 u1 : Nat) (f : Row) (k : Int32) (a : Nat) (amt : Int32) (ha : a < 6) : MR ln yX5_affords wsX5_affords (rmm 1 21) dg tq [.ref u0, .int k, .int (nI a), .int amt] [(u0, .inr (5, [.ref u1])), (u1, .inl (tq.1, 6, .inl f))] (fun r => r = (bI (!decide (k.toInt = 2 ∨ k.toInt = 3) || decide (amt.toInt ≤ (f a).toInt)))) := by
  refine MR.enter cX5_affords 4 .boolean (by decide) rfl rfl (Nat.le_of_ble_eq_true rfl) ?_
  intro pP eE sS mM aA bB mT cC QQ AA hA hAT hret H locs hP hS ls hl
  obtain ⟨hx, hb, hml, hown, hts, hK, hN⟩ := hAT
  have hown : sS.vm.findClass RX5 = some mM.cls := hown
  have hl : lv_has ls 4 [(0, .ref u0), (1, .int k), (2, .int (nI a)), (3, .int amt)] := hl
  have st_X7_takes := hts (.static yX7_takes) (List.mem_of_getElem? (i := 1) rfl)
  have iRX7 := hts (.initialized RX7) (List.mem_of_getElem? (i := 2) rfl)
  refine lv_iload_n hx hb dX5_affords_0 rfl (lv_at hl 1 rfl) ?_
  refine call_x (va_runSN (As := [.int k]) (rest := []) ⟨hx, hb, hml, hown, hts⟩ (kX7_takes ln dg tq (v := k) H.size) ⟨va_cnB 1 hts gX5_affords_X7_takes_n44 rfl rfl rfl hN.2.2.2.1 iRX7 hdX7_takes.2 ⟨Nat.le_of_ble_eq_true rfl, Nat.le_of_ble_eq_true rfl⟩, st_X7_takes, trivial⟩ (preS0 hK hN [.int k]) rfl rfl hl.1 rfl (lv_room (Nat.le_of_ble_eq_true rfl)) dX5_affords_1 ⟨Nat.le_refl _, Nat.le_refl _⟩) hP hS hA (fun H locs hP hS => ?_)
  refine r_if_eq_b (tgt := 16) hx hb dX5_affords_4 (by decide) (fun c4 => ?_) (fun c4 => ?_)
  · skip
    refine lv_iconst (v := (nI 1)) hx hb dX5_affords_16 (by decide) ?_
    refine lv_goto (tgt := 21) hx hb dX5_affords_17 (by decide) ?_
    exact hret (nI 1) H locs _ ls (by rw [c4]; first | rfl | (simp only [Bool.not_true, Bool.false_or]; first | exact (bI_pos (by omega)).symm | exact (bI_neg (by omega)).symm)) rfl hS dX5_affords_21
  · skip
    refine lv_aload_n hx hb dX5_affords_7 rfl (lv_at hl 0 rfl) ?_
    refine lv_iload_n hx hb dX5_affords_8 rfl (lv_at hl 2 rfl) ?_
    refine call_x (va_runV (As := [.int (nI a)]) (rest := []) ⟨hx, hb, hml, hown, hts⟩ (kX5_sum ln dg tq (u0 := u0) (u1 := u1) (f := f) (a := a) (ha := (by omega)) H.size) (cwV 1 hts gX5_affords_X5_sum rfl rfl rfl hdX5_sum ⟨Nat.le_of_ble_eq_true rfl, Nat.le_of_ble_eq_true rfl⟩) (preVR hK hN hP [0, 1] rfl 0 rfl rfl [.int (nI a)]) rfl rfl hl.1 rfl (lv_room (Nat.le_of_ble_eq_true rfl)) dX5_affords_9 ⟨Nat.le_refl _, Nat.le_refl _⟩) hP hS hA (fun H locs hP hS => ?_)
    refine lv_iload_n hx hb dX5_affords_12 rfl (lv_at hl 3 rfl) ?_
    refine r_icmp_lt (tgt := 20) hx hb rfl rfl dX5_affords_13 (by decide) (fun c13 => ?_) (fun c13 => ?_)
    · skip
      refine lv_iconst (v := (nI 0)) hx hb dX5_affords_20 (by decide) ?_
      exact hret (nI 0) H locs _ ls (by rw [c4]; first | rfl | (simp only [Bool.not_true, Bool.false_or]; first | exact (bI_pos (by omega)).symm | exact (bI_neg (by omega)).symm)) rfl hS dX5_affords_21
    · skip
      refine lv_iconst (v := (nI 1)) hx hb dX5_affords_16 (by decide) ?_
      refine lv_goto (tgt := 21) hx hb dX5_affords_17 (by decide) ?_
      exact hret (nI 1) H locs _ ls (by rw [c4]; first | rfl | (simp only [Bool.not_true, Bool.false_or]; first | exact (bI_pos (by omega)).symm | exact (bI_neg (by omega)).symm)) rfl hS dX5_affords_21
theorem hdX5_change : yX5_change.cls = RX5 ∧ yX5_change.cls ≠ "java/lang/invoke/MethodHandle" ∧ yX5_change.cls ≠ "java/lang/invoke/VarHandle" ∧ (parseMethodDescriptor yX5_change.desc).map (fun d => d.parameters.length) = some 2 := by decide +kernel
set_option maxHeartbeats 4000000 in
set_option maxRecDepth 100000 in
theorem kX5_change (ln : Launch) (dg : va_G) (tq : ClassId × ClassId) (u0 u1 : Nat) (f : Row) (a : Nat) (y : Int32) (ha : a < 6) : MV ln yX5_change wsX5_change (rmm 0 0) dg tq [.ref u0, .int (nI a), .int y] [(u0, .inr (5, [.ref u1])), (u1, .inl (tq.1, 6, .inl f))] (fun (u : Unit) => True) (fun u => [(u0, .inr (5, [.ref u1])), (u1, .inl (tq.1, 6, .inl (upd f a (f a + y))))]) := by
  refine MV.enter cX5_change 3 (by decide) rfl rfl (Nat.le_of_ble_eq_true rfl) ?_
  intro pP eE sS mM aA bB mT cC QQ AA hA hAT hret H locs hP hD hS ls hl
  obtain ⟨hx, hb, hml, hown, hts, hK, hN⟩ := hAT
  have hown : sS.vm.findClass RX5 = some mM.cls := hown
  have hl : lv_has ls 3 [(0, .ref u0), (1, .int (nI a)), (2, .int y)] := hl
  have in5 : ∀ w ∈ u_ws RX5 TX5 1, w ∈ wsX5_change := (fun _ h9 => List.mem_cons_of_mem _ (List.mem_append_right _ h9))
  have f9 := hts (.fieldLink RX5 9 "OrphanChain$Purse" "sums" "[I") (List.mem_of_getElem? (i := 1) rfl)
  refine lv_iload_n hx hb dX5_change_0 rfl (lv_at hl 1 rfl) ?_
  refine r_if_lt (tgt := 20) hx hb (nI_tI (by omega)) dX5_change_1 (by decide) (fun c1 => False.elim (by omega)) (fun c1 => ?_)
  refine lv_iload_n hx hb dX5_change_4 rfl (lv_at hl 1 rfl) ?_
  refine lv_bipush (v := (nI 6)) hx hb dX5_change_5 (by decide) ?_
  refine r_icmp_ge (tgt := 20) hx hb (nI_tI (by omega)) (nI_tI (by omega)) dX5_change_7 (by decide) (fun c7 => False.elim (by omega)) (fun c7 => ?_)
  refine lv_aload_n hx hb dX5_change_10 rfl (lv_at hl 0 rfl) ?_
  refine va_get (D := dg) (ci := 5) (v := .ref u1) (C := RX5) (T := TX5) (N := 1) hx hb hts in5 hown hK hP 0 rfl rfl 0 (by decide) f9 (fun _ h9 => h9) rfl dX5_change_11 ?_
  refine lv_iload_n hx hb dX5_change_14 rfl (lv_at hl 1 rfl) ?_
  refine lv_dup2_11 hx hb dX5_change_15 rfl rfl ?_
  refine r_iald_n hx hb hK hP 1 rfl (k := a) (by omega) (by omega) dX5_change_16 ?_
  refine lv_iload_n hx hb dX5_change_17 rfl (lv_at hl 2 rfl) ?_
  refine lv_iadd hx hb dX5_change_18 ?_
  refine r_iast_n hx hb hK hP hD hS 1 rfl (k := a) (by omega) (by omega) dX5_change_19 (fun H locs hP hD hS => ?_)
  have hP : va_P dg vwCl [(u0, .inr (5, [.ref u1])), (u1, .inl (tq.1, 6, .inl (upd f a ((f a) + y))))] H := hP
  have hD : va_D AA [(u0, .inr (5, [.ref u1])), (u1, .inl (tq.1, 6, .inl (upd f a ((f a) + y))))] := hD
  exact hret (()) H locs _ ls (trivial) (hP.sub [0, 1] rfl) (hD.sub [0, 1] (by decide) rfl) hS dX5_change_20
