theorem hdX7_isWithin : yX7_isWithin.cls = RX7 ∧ yX7_isWithin.cls ≠ "java/lang/invoke/MethodHandle" ∧ yX7_isWithin.cls ≠ "java/lang/invoke/VarHandle" ∧ (parseMethodDescriptor yX7_isWithin.desc).map (fun d => d.parameters.length) = some 3 := by decide +kernel
set_option maxHeartbeats 4000000 in
set_option maxRecDepth 100000 in
theorem kX7_isWithin (ln : Launch) (dg : va_G) (tq : ClassId × ClassId) (v lo hi : Int32) : MR ln yX7_isWithin wsX7_isWithin (rmm 0 0) dg tq [.int v, .int lo, .int hi] [] (fun r => r = (bI (inR v lo hi))) := by
  refine MR.enter cX7_isWithin 3 .boolean (by decide) rfl rfl (Nat.le_of_ble_eq_true rfl) ?_
  intro pP eE sS mM aA bB mT cC QQ AA hA hAT hret H locs hP hS ls hl
  obtain ⟨hx, hb, hml, hown, hts, hK, hN⟩ := hAT
  have hown : sS.vm.findClass RX7 = some mM.cls := hown
  have hl : lv_has ls 3 [(0, .int v), (1, .int lo), (2, .int hi)] := hl
  refine lv_iload_n hx hb dX7_isWithin_0 rfl (lv_at hl 0 rfl) ?_
  refine lv_iload_n hx hb dX7_isWithin_1 rfl (lv_at hl 1 rfl) ?_
  refine r_icmp_lt (tgt := 14) hx hb rfl rfl dX7_isWithin_2 (by decide) (fun c2 => ?_) (fun c2 => ?_)
  · skip
    refine lv_iconst (v := (nI 0)) hx hb dX7_isWithin_14 (by decide) ?_
    exact hret (nI 0) H locs _ ls (by first | exact (bI_pos (by omega)).symm | exact (bI_neg (by omega)).symm) rfl hS dX7_isWithin_15
  · skip
    refine lv_iload_n hx hb dX7_isWithin_5 rfl (lv_at hl 0 rfl) ?_
    refine lv_iload_n hx hb dX7_isWithin_6 rfl (lv_at hl 2 rfl) ?_
    refine r_icmp_gt (tgt := 14) hx hb rfl rfl dX7_isWithin_7 (by decide) (fun c7 => ?_) (fun c7 => ?_)
    · skip
      refine lv_iconst (v := (nI 0)) hx hb dX7_isWithin_14 (by decide) ?_
      exact hret (nI 0) H locs _ ls (by first | exact (bI_pos (by omega)).symm | exact (bI_neg (by omega)).symm) rfl hS dX7_isWithin_15
    · skip
      refine lv_iconst (v := (nI 1)) hx hb dX7_isWithin_10 (by decide) ?_
      refine lv_goto (tgt := 15) hx hb dX7_isWithin_11 (by decide) ?_
      exact hret (nI 1) H locs _ ls (by first | exact (bI_pos (by omega)).symm | exact (bI_neg (by omega)).symm) rfl hS dX7_isWithin_15
theorem hdX7_isAccount : yX7_isAccount.cls = RX7 ∧ yX7_isAccount.cls ≠ "java/lang/invoke/MethodHandle" ∧ yX7_isAccount.cls ≠ "java/lang/invoke/VarHandle" ∧ (parseMethodDescriptor yX7_isAccount.desc).map (fun d => d.parameters.length) = some 1 := by decide +kernel
set_option maxHeartbeats 4000000 in
set_option maxRecDepth 100000 in
theorem kX7_isAccount (ln : Launch) (dg : va_G) (tq : ClassId × ClassId) (v : Int32) : MR ln yX7_isAccount wsX7_isAccount (rmm 1 22) dg tq [.int v] [] (fun r => r = (bI (inR v (nI 0) (nI 5)))) := by
  refine MR.enter cX7_isAccount 1 .boolean (by decide) rfl rfl (Nat.le_of_ble_eq_true rfl) ?_
  intro pP eE sS mM aA bB mT cC QQ AA hA hAT hret H locs hP hS ls hl
  obtain ⟨hx, hb, hml, hown, hts, hK, hN⟩ := hAT
  have hown : sS.vm.findClass RX7 = some mM.cls := hown
  have hl : lv_has ls 1 [(0, .int v)] := hl
  refine lv_iload_n hx hb dX7_isAccount_0 rfl (lv_at hl 0 rfl) ?_
  refine lv_iconst (v := (nI 0)) hx hb dX7_isAccount_1 (by decide) ?_
  refine lv_iconst (v := (nI 5)) hx hb dX7_isAccount_2 (by decide) ?_
  refine call_x (va_runS (As := [.int v, .int (nI 0), .int (nI 5)]) (rest := []) ⟨hx, hb, hml, hown, hts⟩ (kX7_isWithin ln dg tq (v := v) (lo := (nI 0)) (hi := (nI 5)) H.size) (va_cwS 3 hts gX7_isAccount_X7_isWithin rfl rfl rfl hdX7_isWithin.2 ⟨Nat.le_of_ble_eq_true rfl, Nat.le_of_ble_eq_true rfl⟩) (preS0 hK hN [.int v, .int (nI 0), .int (nI 5)]) rfl rfl hl.1 rfl (lv_room (Nat.le_of_ble_eq_true rfl)) dX7_isAccount_3 ⟨Nat.le_refl _, Nat.le_refl _⟩) hP hS hA (fun H locs hP hS => ?_)
  exact hret (bI (inR v (nI 0) (nI 5))) H locs _ ls (rfl) (narrow_bI _) hS dX7_isAccount_6
theorem hdX7_isPayer : yX7_isPayer.cls = RX7 ∧ yX7_isPayer.cls ≠ "java/lang/invoke/MethodHandle" ∧ yX7_isPayer.cls ≠ "java/lang/invoke/VarHandle" ∧ (parseMethodDescriptor yX7_isPayer.desc).map (fun d => d.parameters.length) = some 1 := by decide +kernel
set_option maxHeartbeats 4000000 in
set_option maxRecDepth 100000 in
theorem kX7_isPayer (ln : Launch) (dg : va_G) (tq : ClassId × ClassId) (v : Int32) : MR ln yX7_isPayer wsX7_isPayer (rmm 1 22) dg tq [.int v] [] (fun r => r = (bI (inR v (nI 1) (nI 5)))) := by
  refine MR.enter cX7_isPayer 1 .boolean (by decide) rfl rfl (Nat.le_of_ble_eq_true rfl) ?_
  intro pP eE sS mM aA bB mT cC QQ AA hA hAT hret H locs hP hS ls hl
  obtain ⟨hx, hb, hml, hown, hts, hK, hN⟩ := hAT
  have hown : sS.vm.findClass RX7 = some mM.cls := hown
  have hl : lv_has ls 1 [(0, .int v)] := hl
  refine lv_iload_n hx hb dX7_isPayer_0 rfl (lv_at hl 0 rfl) ?_
  refine lv_iconst (v := (nI 1)) hx hb dX7_isPayer_1 (by decide) ?_
  refine lv_iconst (v := (nI 5)) hx hb dX7_isPayer_2 (by decide) ?_
  refine call_x (va_runS (As := [.int v, .int (nI 1), .int (nI 5)]) (rest := []) ⟨hx, hb, hml, hown, hts⟩ (kX7_isWithin ln dg tq (v := v) (lo := (nI 1)) (hi := (nI 5)) H.size) (va_cwS 3 hts gX7_isPayer_X7_isWithin rfl rfl rfl hdX7_isWithin.2 ⟨Nat.le_of_ble_eq_true rfl, Nat.le_of_ble_eq_true rfl⟩) (preS0 hK hN [.int v, .int (nI 1), .int (nI 5)]) rfl rfl hl.1 rfl (lv_room (Nat.le_of_ble_eq_true rfl)) dX7_isPayer_3 ⟨Nat.le_refl _, Nat.le_refl _⟩) hP hS hA (fun H locs hP hS => ?_)
  exact hret (bI (inR v (nI 1) (nI 5))) H locs _ ls (rfl) (narrow_bI _) hS dX7_isPayer_6
theorem hdX7_isSum : yX7_isSum.cls = RX7 ∧ yX7_isSum.cls ≠ "java/lang/invoke/MethodHandle" ∧ yX7_isSum.cls ≠ "java/lang/invoke/VarHandle" ∧ (parseMethodDescriptor yX7_isSum.desc).map (fun d => d.parameters.length) = some 1 := by decide +kernel
set_option maxHeartbeats 4000000 in
set_option maxRecDepth 100000 in
theorem kX7_isSum (ln : Launch) (dg : va_G) (tq : ClassId × ClassId) (v : Int32) : MR ln yX7_isSum wsX7_isSum (rmm 1 22) dg tq [.int v] [] (fun r => r = (bI (inR v (nI 1) (nI 999)))) := by
  refine MR.enter cX7_isSum 1 .boolean (by decide) rfl rfl (Nat.le_of_ble_eq_true rfl) ?_
  intro pP eE sS mM aA bB mT cC QQ AA hA hAT hret H locs hP hS ls hl
  obtain ⟨hx, hb, hml, hown, hts, hK, hN⟩ := hAT
  have hown : sS.vm.findClass RX7 = some mM.cls := hown
  have hl : lv_has ls 1 [(0, .int v)] := hl
  refine lv_iload_n hx hb dX7_isSum_0 rfl (lv_at hl 0 rfl) ?_
  refine lv_iconst (v := (nI 1)) hx hb dX7_isSum_1 (by decide) ?_
  refine lv_sipush (v := (nI 999)) hx hb dX7_isSum_2 (by decide) ?_
  refine call_x (va_runS (As := [.int v, .int (nI 1), .int (nI 999)]) (rest := []) ⟨hx, hb, hml, hown, hts⟩ (kX7_isWithin ln dg tq (v := v) (lo := (nI 1)) (hi := (nI 999)) H.size) (va_cwS 3 hts gX7_isSum_X7_isWithin rfl rfl rfl hdX7_isWithin.2 ⟨Nat.le_of_ble_eq_true rfl, Nat.le_of_ble_eq_true rfl⟩) (preS0 hK hN [.int v, .int (nI 1), .int (nI 999)]) rfl rfl hl.1 rfl (lv_room (Nat.le_of_ble_eq_true rfl)) dX7_isSum_5 ⟨Nat.le_refl _, Nat.le_refl _⟩) hP hS hA (fun H locs hP hS => ?_)
  exact hret (bI (inR v (nI 1) (nI 999))) H locs _ ls (rfl) (narrow_bI _) hS dX7_isSum_8
theorem hdX7_isCode : yX7_isCode.cls = RX7 ∧ yX7_isCode.cls ≠ "java/lang/invoke/MethodHandle" ∧ yX7_isCode.cls ≠ "java/lang/invoke/VarHandle" ∧ (parseMethodDescriptor yX7_isCode.desc).map (fun d => d.parameters.length) = some 1 := by decide +kernel
set_option maxHeartbeats 4000000 in
set_option maxRecDepth 100000 in
theorem kX7_isCode (ln : Launch) (dg : va_G) (tq : ClassId × ClassId) (v : Int32) : MR ln yX7_isCode wsX7_isCode (rmm 1 22) dg tq [.int v] [] (fun r => r = (bI (inR v (nI 0) (nI 999)))) := by
  refine MR.enter cX7_isCode 1 .boolean (by decide) rfl rfl (Nat.le_of_ble_eq_true rfl) ?_
  intro pP eE sS mM aA bB mT cC QQ AA hA hAT hret H locs hP hS ls hl
  obtain ⟨hx, hb, hml, hown, hts, hK, hN⟩ := hAT
  have hown : sS.vm.findClass RX7 = some mM.cls := hown
  have hl : lv_has ls 1 [(0, .int v)] := hl
  refine lv_iload_n hx hb dX7_isCode_0 rfl (lv_at hl 0 rfl) ?_
  refine lv_iconst (v := (nI 0)) hx hb dX7_isCode_1 (by decide) ?_
  refine lv_sipush (v := (nI 999)) hx hb dX7_isCode_2 (by decide) ?_
  refine call_x (va_runS (As := [.int v, .int (nI 0), .int (nI 999)]) (rest := []) ⟨hx, hb, hml, hown, hts⟩ (kX7_isWithin ln dg tq (v := v) (lo := (nI 0)) (hi := (nI 999)) H.size) (va_cwS 3 hts gX7_isCode_X7_isWithin rfl rfl rfl hdX7_isWithin.2 ⟨Nat.le_of_ble_eq_true rfl, Nat.le_of_ble_eq_true rfl⟩) (preS0 hK hN [.int v, .int (nI 0), .int (nI 999)]) rfl rfl hl.1 rfl (lv_room (Nat.le_of_ble_eq_true rfl)) dX7_isCode_5 ⟨Nat.le_refl _, Nat.le_refl _⟩) hP hS hA (fun H locs hP hS => ?_)
  exact hret (bI (inR v (nI 0) (nI 999))) H locs _ ls (rfl) (narrow_bI _) hS dX7_isCode_8
theorem hdX7_isSlot : yX7_isSlot.cls = RX7 ∧ yX7_isSlot.cls ≠ "java/lang/invoke/MethodHandle" ∧ yX7_isSlot.cls ≠ "java/lang/invoke/VarHandle" ∧ (parseMethodDescriptor yX7_isSlot.desc).map (fun d => d.parameters.length) = some 1 := by decide +kernel
set_option maxHeartbeats 4000000 in
set_option maxRecDepth 100000 in
theorem kX7_isSlot (ln : Launch) (dg : va_G) (tq : ClassId × ClassId) (v : Int32) : MR ln yX7_isSlot wsX7_isSlot (rmm 1 22) dg tq [.int v] [] (fun r => r = (bI (inR v (nI 0) (nI 1)))) := by
  refine MR.enter cX7_isSlot 1 .boolean (by decide) rfl rfl (Nat.le_of_ble_eq_true rfl) ?_
  intro pP eE sS mM aA bB mT cC QQ AA hA hAT hret H locs hP hS ls hl
  obtain ⟨hx, hb, hml, hown, hts, hK, hN⟩ := hAT
  have hown : sS.vm.findClass RX7 = some mM.cls := hown
  have hl : lv_has ls 1 [(0, .int v)] := hl
  refine lv_iload_n hx hb dX7_isSlot_0 rfl (lv_at hl 0 rfl) ?_
  refine lv_iconst (v := (nI 0)) hx hb dX7_isSlot_1 (by decide) ?_
  refine lv_iconst (v := (nI 1)) hx hb dX7_isSlot_2 (by decide) ?_
  refine call_x (va_runS (As := [.int v, .int (nI 0), .int (nI 1)]) (rest := []) ⟨hx, hb, hml, hown, hts⟩ (kX7_isWithin ln dg tq (v := v) (lo := (nI 0)) (hi := (nI 1)) H.size) (va_cwS 3 hts gX7_isSlot_X7_isWithin rfl rfl rfl hdX7_isWithin.2 ⟨Nat.le_of_ble_eq_true rfl, Nat.le_of_ble_eq_true rfl⟩) (preS0 hK hN [.int v, .int (nI 0), .int (nI 1)]) rfl rfl hl.1 rfl (lv_room (Nat.le_of_ble_eq_true rfl)) dX7_isSlot_3 ⟨Nat.le_refl _, Nat.le_refl _⟩) hP hS hA (fun H locs hP hS => ?_)
  exact hret (bI (inR v (nI 0) (nI 1))) H locs _ ls (rfl) (narrow_bI _) hS dX7_isSlot_6
theorem hdX7_takes : yX7_takes.cls = RX7 ∧ yX7_takes.cls ≠ "java/lang/invoke/MethodHandle" ∧ yX7_takes.cls ≠ "java/lang/invoke/VarHandle" ∧ (parseMethodDescriptor yX7_takes.desc).map (fun d => d.parameters.length) = some 1 := by decide +kernel
set_option maxHeartbeats 4000000 in
set_option maxRecDepth 100000 in
theorem kX7_takes (ln : Launch) (dg : va_G) (tq : ClassId × ClassId) (v : Int32) : MR ln yX7_takes wsX7_takes (rmm 0 0) dg tq [.int v] [] (fun r => r = (bI (decide (v.toInt = 2 ∨ v.toInt = 3)))) := by
  refine MR.enter cX7_takes 1 .boolean (by decide) rfl rfl (Nat.le_of_ble_eq_true rfl) ?_
  intro pP eE sS mM aA bB mT cC QQ AA hA hAT hret H locs hP hS ls hl
  obtain ⟨hx, hb, hml, hown, hts, hK, hN⟩ := hAT
  have hown : sS.vm.findClass RX7 = some mM.cls := hown
  have hl : lv_has ls 1 [(0, .int v)] := hl
  refine lv_iload_n hx hb dX7_takes_0 rfl (lv_at hl 0 rfl) ?_
  refine lv_iconst (v := (nI 2)) hx hb dX7_takes_1 (by decide) ?_
  refine r_icmp_eq (tgt := 10) hx hb rfl (nI_tI (by omega)) dX7_takes_2 (by decide) (fun c2 => ?_) (fun c2 => ?_)
  · skip
    refine lv_iconst (v := (nI 1)) hx hb dX7_takes_10 (by decide) ?_
    refine lv_goto (tgt := 15) hx hb dX7_takes_11 (by decide) ?_
    exact hret (nI 1) H locs _ ls (by first | exact (bI_pos (by omega)).symm | exact (bI_neg (by omega)).symm) rfl hS dX7_takes_15
  · skip
    refine lv_iload_n hx hb dX7_takes_5 rfl (lv_at hl 0 rfl) ?_
    refine lv_iconst (v := (nI 3)) hx hb dX7_takes_6 (by decide) ?_
    refine r_icmp_ne (tgt := 14) hx hb rfl (nI_tI (by omega)) dX7_takes_7 (by decide) (fun c7 => ?_) (fun c7 => ?_)
    · skip
      refine lv_iconst (v := (nI 0)) hx hb dX7_takes_14 (by decide) ?_
      exact hret (nI 0) H locs _ ls (by first | exact (bI_pos (by omega)).symm | exact (bI_neg (by omega)).symm) rfl hS dX7_takes_15
    · skip
      refine lv_iconst (v := (nI 1)) hx hb dX7_takes_10 (by decide) ?_
      refine lv_goto (tgt := 15) hx hb dX7_takes_11 (by decide) ?_
      exact hret (nI 1) H locs _ ls (by first | exact (bI_pos (by omega)).symm | exact (bI_neg (by omega)).symm) rfl hS dX7_takes_15
theorem hdX7_brings : yX7_brings.cls = RX7 ∧ yX7_brings.cls ≠ "java/lang/invoke/MethodHandle" ∧ yX7_brings.cls ≠ "java/lang/invoke/VarHandle" ∧ (parseMethodDescriptor yX7_brings.desc).map (fun d => d.parameters.length) = some 1 := by decide +kernel
set_option maxHeartbeats 4000000 in
set_option maxRecDepth 100000 in
theorem kX7_brings (ln : Launch) (dg : va_G) (tq : ClassId × ClassId) (v : Int32) : MR ln yX7_brings wsX7_brings (rmm 0 0) dg tq [.int v] [] (fun r => r = (bI (decide (1 ≤ v.toInt ∧ v.toInt ≤ 3)))) := by
  refine MR.enter cX7_brings 1 .boolean (by decide) rfl rfl (Nat.le_of_ble_eq_true rfl) ?_
  intro pP eE sS mM aA bB mT cC QQ AA hA hAT hret H locs hP hS ls hl
  obtain ⟨hx, hb, hml, hown, hts, hK, hN⟩ := hAT
  have hown : sS.vm.findClass RX7 = some mM.cls := hown
  have hl : lv_has ls 1 [(0, .int v)] := hl
  refine lv_iload_n hx hb dX7_brings_0 rfl (lv_at hl 0 rfl) ?_
  refine lv_iconst (v := (nI 1)) hx hb dX7_brings_1 (by decide) ?_
  refine r_icmp_eq (tgt := 15) hx hb rfl (nI_tI (by omega)) dX7_brings_2 (by decide) (fun c2 => ?_) (fun c2 => ?_)
  · skip
    refine lv_iconst (v := (nI 1)) hx hb dX7_brings_15 (by decide) ?_
    refine lv_goto (tgt := 20) hx hb dX7_brings_16 (by decide) ?_
    exact hret (nI 1) H locs _ ls (by first | exact (bI_pos (by omega)).symm | exact (bI_neg (by omega)).symm) rfl hS dX7_brings_20
  · skip
    refine lv_iload_n hx hb dX7_brings_5 rfl (lv_at hl 0 rfl) ?_
    refine lv_iconst (v := (nI 2)) hx hb dX7_brings_6 (by decide) ?_
    refine r_icmp_eq (tgt := 15) hx hb rfl (nI_tI (by omega)) dX7_brings_7 (by decide) (fun c7 => ?_) (fun c7 => ?_)
    · skip
      refine lv_iconst (v := (nI 1)) hx hb dX7_brings_15 (by decide) ?_
      refine lv_goto (tgt := 20) hx hb dX7_brings_16 (by decide) ?_
      exact hret (nI 1) H locs _ ls (by first | exact (bI_pos (by omega)).symm | exact (bI_neg (by omega)).symm) rfl hS dX7_brings_20
    · skip
      refine lv_iload_n hx hb dX7_brings_10 rfl (lv_at hl 0 rfl) ?_
      refine lv_iconst (v := (nI 3)) hx hb dX7_brings_11 (by decide) ?_
      refine r_icmp_ne (tgt := 19) hx hb rfl (nI_tI (by omega)) dX7_brings_12 (by decide) (fun c12 => ?_) (fun c12 => ?_)
      · skip
        refine lv_iconst (v := (nI 0)) hx hb dX7_brings_19 (by decide) ?_
        exact hret (nI 0) H locs _ ls (by first | exact (bI_pos (by omega)).symm | exact (bI_neg (by omega)).symm) rfl hS dX7_brings_20
      · skip
        refine lv_iconst (v := (nI 1)) hx hb dX7_brings_15 (by decide) ?_
        refine lv_goto (tgt := 20) hx hb dX7_brings_16 (by decide) ?_
        exact hret (nI 1) H locs _ ls (by first | exact (bI_pos (by omega)).symm | exact (bI_neg (by omega)).symm) rfl hS dX7_brings_20
theorem hdX1_number : yX1_number.cls = RX1 ∧ yX1_number.cls ≠ "java/lang/invoke/MethodHandle" ∧ yX1_number.cls ≠ "java/lang/invoke/VarHandle" ∧ (parseMethodDescriptor yX1_number.desc).map (fun d => d.parameters.length) = some 1 := by decide +kernel
set_option maxHeartbeats 4000000 in
set_option maxRecDepth 100000 in
theorem kX1_number (ln : Launch) (dg : va_G) (tq : ClassId × ClassId) (h0 h1 : Nat) (c : Row) (k : Nat) (hk : k < 5) : MR ln yX1_number wsX1_number (rmm 0 0) dg tq [.ref h0, .int (nI k)] [(h0, .inr (1, [.ref h1])), (h1, .inl (tq.1, 1473, .inl c))] (fun r => r = (c k)) := by
  refine MR.enter cX1_number 2 .int (by decide) rfl rfl (Nat.le_of_ble_eq_true rfl) ?_
  intro pP eE sS mM aA bB mT cC QQ AA hA hAT hret H locs hP hS ls hl
  obtain ⟨hx, hb, hml, hown, hts, hK, hN⟩ := hAT
  have hown : sS.vm.findClass RX1 = some mM.cls := hown
  have hl : lv_has ls 2 [(0, .ref h0), (1, .int (nI k))] := hl
  have in1 : ∀ w ∈ u_ws RX1 TX1 1, w ∈ wsX1_number := (fun _ h9 => List.mem_cons_of_mem _ (List.mem_append_right _ h9))
  have f9 := hts (.fieldLink RX1 9 "OrphanChain$Ledger" "cells" "[I") (List.mem_of_getElem? (i := 1) rfl)
  refine lv_iload_n hx hb dX1_number_0 rfl (lv_at hl 1 rfl) ?_
  refine r_if_lt (tgt := 18) hx hb (nI_tI (by omega)) dX1_number_1 (by decide) (fun c1 => False.elim (by omega)) (fun c1 => ?_)
  refine lv_iload_n hx hb dX1_number_4 rfl (lv_at hl 1 rfl) ?_
  refine lv_iconst (v := (nI 5)) hx hb dX1_number_5 (by decide) ?_
  refine r_icmp_ge (tgt := 18) hx hb (nI_tI (by omega)) (nI_tI (by omega)) dX1_number_6 (by decide) (fun c6 => False.elim (by omega)) (fun c6 => ?_)
  refine lv_aload_n hx hb dX1_number_9 rfl (lv_at hl 0 rfl) ?_
  refine va_get (D := dg) (ci := 1) (v := .ref h1) (C := RX1) (T := TX1) (N := 1) hx hb hts in1 hown hK hP 0 rfl rfl 0 (by decide) f9 (fun _ h9 => h9) rfl dX1_number_10 ?_
  refine lv_iload_n hx hb dX1_number_13 rfl (lv_at hl 1 rfl) ?_
  refine r_iald_n hx hb hK hP 1 rfl (k := k) (by omega) (by omega) dX1_number_14 ?_
  refine lv_goto (tgt := 19) hx hb dX1_number_15 (by decide) ?_
  exact hret (c k) H locs _ ls (rfl) rfl hS dX1_number_19
theorem hdX1_setNumber : yX1_setNumber.cls = RX1 ∧ yX1_setNumber.cls ≠ "java/lang/invoke/MethodHandle" ∧ yX1_setNumber.cls ≠ "java/lang/invoke/VarHandle" ∧ (parseMethodDescriptor yX1_setNumber.desc).map (fun d => d.parameters.length) = some 2 := by decide +kernel
set_option maxHeartbeats 4000000 in
set_option maxRecDepth 100000 in
theorem kX1_setNumber (ln : Launch) (dg : va_G) (tq : ClassId × ClassId) (h0 h1 : Nat) (c : Row) (k : Nat) (v : Int32) (hk : k < 5) : MV ln yX1_setNumber wsX1_setNumber (rmm 0 0) dg tq [.ref h0, .int (nI k), .int v] [(h0, .inr (1, [.ref h1])), (h1, .inl (tq.1, 1473, .inl c))] (fun (u : Unit) => True) (fun u => [(h0, .inr (1, [.ref h1])), (h1, .inl (tq.1, 1473, .inl (upd c k v)))]) := by
  refine MV.enter cX1_setNumber 3 (by decide) rfl rfl (Nat.le_of_ble_eq_true rfl) ?_
  intro pP eE sS mM aA bB mT cC QQ AA hA hAT hret H locs hP hD hS ls hl
  obtain ⟨hx, hb, hml, hown, hts, hK, hN⟩ := hAT
  have hown : sS.vm.findClass RX1 = some mM.cls := hown
  have hl : lv_has ls 3 [(0, .ref h0), (1, .int (nI k)), (2, .int v)] := hl
  have in1 : ∀ w ∈ u_ws RX1 TX1 1, w ∈ wsX1_setNumber := (fun _ h9 => List.mem_cons_of_mem _ (List.mem_append_right _ h9))
  have f9 := hts (.fieldLink RX1 9 "OrphanChain$Ledger" "cells" "[I") (List.mem_of_getElem? (i := 1) rfl)
  refine lv_iload_n hx hb dX1_setNumber_0 rfl (lv_at hl 1 rfl) ?_
  refine r_if_lt (tgt := 16) hx hb (nI_tI (by omega)) dX1_setNumber_1 (by decide) (fun c1 => False.elim (by omega)) (fun c1 => ?_)
  refine lv_iload_n hx hb dX1_setNumber_4 rfl (lv_at hl 1 rfl) ?_
  refine lv_iconst (v := (nI 5)) hx hb dX1_setNumber_5 (by decide) ?_
  refine r_icmp_ge (tgt := 16) hx hb (nI_tI (by omega)) (nI_tI (by omega)) dX1_setNumber_6 (by decide) (fun c6 => False.elim (by omega)) (fun c6 => ?_)
  refine lv_aload_n hx hb dX1_setNumber_9 rfl (lv_at hl 0 rfl) ?_
  refine va_get (D := dg) (ci := 1) (v := .ref h1) (C := RX1) (T := TX1) (N := 1) hx hb hts in1 hown hK hP 0 rfl rfl 0 (by decide) f9 (fun _ h9 => h9) rfl dX1_setNumber_10 ?_
  refine lv_iload_n hx hb dX1_setNumber_13 rfl (lv_at hl 1 rfl) ?_
  refine lv_iload_n hx hb dX1_setNumber_14 rfl (lv_at hl 2 rfl) ?_
  refine r_iast_n hx hb hK hP hD hS 1 rfl (k := k) (by omega) (by omega) dX1_setNumber_15 (fun H locs hP hD hS => ?_)
  have hP : va_P dg vwCl [(h0, .inr (1, [.ref h1])), (h1, .inl (tq.1, 1473, .inl (upd c k v)))] H := hP
  have hD : va_D AA [(h0, .inr (1, [.ref h1])), (h1, .inl (tq.1, 1473, .inl (upd c k v)))] := hD
  exact hret (()) H locs _ ls (trivial) (hP.sub [0, 1] rfl) (hD.sub [0, 1] (by decide) rfl) hS dX1_setNumber_16
theorem hdX1_ofEntry : yX1_ofEntry.cls = RX1 ∧ yX1_ofEntry.cls ≠ "java/lang/invoke/MethodHandle" ∧ yX1_ofEntry.cls ≠ "java/lang/invoke/VarHandle" ∧ (parseMethodDescriptor yX1_ofEntry.desc).map (fun d => d.parameters.length) = some 2 := by decide +kernel
set_option maxHeartbeats 4000000 in
set_option maxRecDepth 100000 in
theorem kX1_ofEntry (ln : Launch) (dg : va_G) (tq : ClassId × ClassId) (h0 h1 : Nat) (c : Row) (e f : Nat) (he : e < 60) (hf : f < 7) : MR ln yX1_ofEntry wsX1_ofEntry (rmm 0 0) dg tq [.ref h0, .int (nI e), .int (nI f)] [(h0, .inr (1, [.ref h1])), (h1, .inl (tq.1, 1473, .inl c))] (fun r => r = (c (5 + e * 7 + f))) := by
  refine MR.enter cX1_ofEntry 3 .int (by decide) rfl rfl (Nat.le_of_ble_eq_true rfl) ?_
  intro pP eE sS mM aA bB mT cC QQ AA hA hAT hret H locs hP hS ls hl
  obtain ⟨hx, hb, hml, hown, hts, hK, hN⟩ := hAT
  have hown : sS.vm.findClass RX1 = some mM.cls := hown
  have hl : lv_has ls 3 [(0, .ref h0), (1, .int (nI e)), (2, .int (nI f))] := hl
  have in1 : ∀ w ∈ u_ws RX1 TX1 1, w ∈ wsX1_ofEntry := (fun _ h9 => List.mem_cons_of_mem _ (List.mem_append_right _ h9))
  have f9 := hts (.fieldLink RX1 9 "OrphanChain$Ledger" "cells" "[I") (List.mem_of_getElem? (i := 1) rfl)
  refine lv_iload_n hx hb dX1_ofEntry_0 rfl (lv_at hl 1 rfl) ?_
  refine r_if_lt (tgt := 20) hx hb (nI_tI (by omega)) dX1_ofEntry_1 (by decide) (fun c1 => False.elim (by omega)) (fun c1 => ?_)
  refine lv_iload_n hx hb dX1_ofEntry_4 rfl (lv_at hl 1 rfl) ?_
  refine lv_bipush (v := (nI 60)) hx hb dX1_ofEntry_5 (by decide) ?_
  refine r_icmp_ge (tgt := 20) hx hb (nI_tI (by omega)) (nI_tI (by omega)) dX1_ofEntry_7 (by decide) (fun c7 => False.elim (by omega)) (fun c7 => ?_)
  refine lv_iload_n hx hb dX1_ofEntry_10 rfl (lv_at hl 2 rfl) ?_
  refine r_if_lt (tgt := 20) hx hb (nI_tI (by omega)) dX1_ofEntry_11 (by decide) (fun c11 => False.elim (by omega)) (fun c11 => ?_)
  refine lv_iload_n hx hb dX1_ofEntry_14 rfl (lv_at hl 2 rfl) ?_
  refine lv_bipush (v := (nI 7)) hx hb dX1_ofEntry_15 (by decide) ?_
  refine r_icmp_lt (tgt := 22) hx hb (nI_tI (by omega)) (nI_tI (by omega)) dX1_ofEntry_17 (by decide) (fun c17 => ?_) (fun c17 => False.elim (by omega))
  refine lv_aload_n hx hb dX1_ofEntry_22 rfl (lv_at hl 0 rfl) ?_
  refine va_get (D := dg) (ci := 1) (v := .ref h1) (C := RX1) (T := TX1) (N := 1) hx hb hts in1 hown hK hP 0 rfl rfl 0 (by decide) f9 (fun _ h9 => h9) rfl dX1_ofEntry_23 ?_
  refine lv_iconst (v := (nI 5)) hx hb dX1_ofEntry_26 (by decide) ?_
  refine lv_iload_n hx hb dX1_ofEntry_27 rfl (lv_at hl 1 rfl) ?_
  refine lv_bipush (v := (nI 7)) hx hb dX1_ofEntry_28 (by decide) ?_
  refine r_imul_n hx hb dX1_ofEntry_30 ?_
  refine r_iadd_n hx hb dX1_ofEntry_31 ?_
  refine lv_iload_n hx hb dX1_ofEntry_32 rfl (lv_at hl 2 rfl) ?_
  refine r_iadd_n hx hb dX1_ofEntry_33 ?_
  refine r_iald_n hx hb hK hP 1 rfl (k := ((5 + (e * 7)) + f)) (by omega) (by omega) dX1_ofEntry_34 ?_
  exact hret (c ((5 + (e * 7)) + f)) H locs _ ls (rfl) rfl hS dX1_ofEntry_35
theorem hdX1_setOfEntry : yX1_setOfEntry.cls = RX1 ∧ yX1_setOfEntry.cls ≠ "java/lang/invoke/MethodHandle" ∧ yX1_setOfEntry.cls ≠ "java/lang/invoke/VarHandle" ∧ (parseMethodDescriptor yX1_setOfEntry.desc).map (fun d => d.parameters.length) = some 3 := by decide +kernel
set_option maxHeartbeats 4000000 in
set_option maxRecDepth 100000 in
theorem kX1_setOfEntry (ln : Launch) (dg : va_G) (tq : ClassId × ClassId) (h0 h1 : Nat) (c : Row) (e f : Nat) (v : Int32) (he : e < 60) (hf : f < 7) : MV ln yX1_setOfEntry wsX1_setOfEntry (rmm 0 0) dg tq [.ref h0, .int (nI e), .int (nI f), .int v] [(h0, .inr (1, [.ref h1])), (h1, .inl (tq.1, 1473, .inl c))] (fun (u : Unit) => True) (fun u => [(h0, .inr (1, [.ref h1])), (h1, .inl (tq.1, 1473, .inl (upd c (5 + e * 7 + f) v)))]) := by
  refine MV.enter cX1_setOfEntry 4 (by decide) rfl rfl (Nat.le_of_ble_eq_true rfl) ?_
  intro pP eE sS mM aA bB mT cC QQ AA hA hAT hret H locs hP hD hS ls hl
  obtain ⟨hx, hb, hml, hown, hts, hK, hN⟩ := hAT
  have hown : sS.vm.findClass RX1 = some mM.cls := hown
  have hl : lv_has ls 4 [(0, .ref h0), (1, .int (nI e)), (2, .int (nI f)), (3, .int v)] := hl
  have in1 : ∀ w ∈ u_ws RX1 TX1 1, w ∈ wsX1_setOfEntry := (fun _ h9 => List.mem_cons_of_mem _ (List.mem_append_right _ h9))
  have f9 := hts (.fieldLink RX1 9 "OrphanChain$Ledger" "cells" "[I") (List.mem_of_getElem? (i := 1) rfl)
  refine lv_iload_n hx hb dX1_setOfEntry_0 rfl (lv_at hl 1 rfl) ?_
  refine r_if_lt (tgt := 34) hx hb (nI_tI (by omega)) dX1_setOfEntry_1 (by decide) (fun c1 => False.elim (by omega)) (fun c1 => ?_)
  refine lv_iload_n hx hb dX1_setOfEntry_4 rfl (lv_at hl 1 rfl) ?_
  refine lv_bipush (v := (nI 60)) hx hb dX1_setOfEntry_5 (by decide) ?_
  refine r_icmp_ge (tgt := 34) hx hb (nI_tI (by omega)) (nI_tI (by omega)) dX1_setOfEntry_7 (by decide) (fun c7 => False.elim (by omega)) (fun c7 => ?_)
  refine lv_iload_n hx hb dX1_setOfEntry_10 rfl (lv_at hl 2 rfl) ?_
  refine r_if_lt (tgt := 34) hx hb (nI_tI (by omega)) dX1_setOfEntry_11 (by decide) (fun c11 => False.elim (by omega)) (fun c11 => ?_)
  refine lv_iload_n hx hb dX1_setOfEntry_14 rfl (lv_at hl 2 rfl) ?_
  refine lv_bipush (v := (nI 7)) hx hb dX1_setOfEntry_15 (by decide) ?_
  refine r_icmp_ge (tgt := 34) hx hb (nI_tI (by omega)) (nI_tI (by omega)) dX1_setOfEntry_17 (by decide) (fun c17 => False.elim (by omega)) (fun c17 => ?_)
  refine lv_aload_n hx hb dX1_setOfEntry_20 rfl (lv_at hl 0 rfl) ?_
  refine va_get (D := dg) (ci := 1) (v := .ref h1) (C := RX1) (T := TX1) (N := 1) hx hb hts in1 hown hK hP 0 rfl rfl 0 (by decide) f9 (fun _ h9 => h9) rfl dX1_setOfEntry_21 ?_
  refine lv_iconst (v := (nI 5)) hx hb dX1_setOfEntry_24 (by decide) ?_
  refine lv_iload_n hx hb dX1_setOfEntry_25 rfl (lv_at hl 1 rfl) ?_
  refine lv_bipush (v := (nI 7)) hx hb dX1_setOfEntry_26 (by decide) ?_
  refine r_imul_n hx hb dX1_setOfEntry_28 ?_
  refine r_iadd_n hx hb dX1_setOfEntry_29 ?_
  refine lv_iload_n hx hb dX1_setOfEntry_30 rfl (lv_at hl 2 rfl) ?_
  refine r_iadd_n hx hb dX1_setOfEntry_31 ?_
  refine lv_iload_n hx hb dX1_setOfEntry_32 rfl (lv_at hl 3 rfl) ?_
  refine r_iast_n hx hb hK hP hD hS 1 rfl (k := ((5 + (e * 7)) + f)) (by omega) (by omega) dX1_setOfEntry_33 (fun H locs hP hD hS => ?_)
  have hP : va_P dg vwCl [(h0, .inr (1, [.ref h1])), (h1, .inl (tq.1, 1473, .inl (upd c ((5 + (e * 7)) + f) v)))] H := hP
  have hD : va_D AA [(h0, .inr (1, [.ref h1])), (h1, .inl (tq.1, 1473, .inl (upd c ((5 + (e * 7)) + f) v)))] := hD
  exact hret (()) H locs _ ls (trivial) (hP.sub [0, 1] rfl) (hD.sub [0, 1] (by decide) rfl) hS dX1_setOfEntry_34
theorem hdX1_ofBranch : yX1_ofBranch.cls = RX1 ∧ yX1_ofBranch.cls ≠ "java/lang/invoke/MethodHandle" ∧ yX1_ofBranch.cls ≠ "java/lang/invoke/VarHandle" ∧ (parseMethodDescriptor yX1_ofBranch.desc).map (fun d => d.parameters.length) = some 2 := by decide +kernel
set_option maxHeartbeats 4000000 in
set_option maxRecDepth 100000 in
theorem kX1_ofBranch (ln : Launch) (dg : va_G) (tq : ClassId × ClassId) (h0 h1 : Nat) (c : Row) (e f : Nat) (he : e < 10) (hf : f < 5) : MR ln yX1_ofBranch wsX1_ofBranch (rmm 0 0) dg tq [.ref h0, .int (nI e), .int (nI f)] [(h0, .inr (1, [.ref h1])), (h1, .inl (tq.1, 1473, .inl c))] (fun r => r = (c (425 + e * 5 + f))) := by
  refine MR.enter cX1_ofBranch 3 .int (by decide) rfl rfl (Nat.le_of_ble_eq_true rfl) ?_
  intro pP eE sS mM aA bB mT cC QQ AA hA hAT hret H locs hP hS ls hl
  obtain ⟨hx, hb, hml, hown, hts, hK, hN⟩ := hAT
  have hown : sS.vm.findClass RX1 = some mM.cls := hown
  have hl : lv_has ls 3 [(0, .ref h0), (1, .int (nI e)), (2, .int (nI f))] := hl
  have in1 : ∀ w ∈ u_ws RX1 TX1 1, w ∈ wsX1_ofBranch := (fun _ h9 => List.mem_cons_of_mem _ (List.mem_append_right _ h9))
  have f9 := hts (.fieldLink RX1 9 "OrphanChain$Ledger" "cells" "[I") (List.mem_of_getElem? (i := 1) rfl)
  refine lv_iload_n hx hb dX1_ofBranch_0 rfl (lv_at hl 1 rfl) ?_
  refine r_if_lt (tgt := 19) hx hb (nI_tI (by omega)) dX1_ofBranch_1 (by decide) (fun c1 => False.elim (by omega)) (fun c1 => ?_)
  refine lv_iload_n hx hb dX1_ofBranch_4 rfl (lv_at hl 1 rfl) ?_
  refine lv_bipush (v := (nI 10)) hx hb dX1_ofBranch_5 (by decide) ?_
  refine r_icmp_ge (tgt := 19) hx hb (nI_tI (by omega)) (nI_tI (by omega)) dX1_ofBranch_7 (by decide) (fun c7 => False.elim (by omega)) (fun c7 => ?_)
  refine lv_iload_n hx hb dX1_ofBranch_10 rfl (lv_at hl 2 rfl) ?_
  refine r_if_lt (tgt := 19) hx hb (nI_tI (by omega)) dX1_ofBranch_11 (by decide) (fun c11 => False.elim (by omega)) (fun c11 => ?_)
  refine lv_iload_n hx hb dX1_ofBranch_14 rfl (lv_at hl 2 rfl) ?_
  refine lv_iconst (v := (nI 5)) hx hb dX1_ofBranch_15 (by decide) ?_
  refine r_icmp_lt (tgt := 21) hx hb (nI_tI (by omega)) (nI_tI (by omega)) dX1_ofBranch_16 (by decide) (fun c16 => ?_) (fun c16 => False.elim (by omega))
  refine lv_aload_n hx hb dX1_ofBranch_21 rfl (lv_at hl 0 rfl) ?_
  refine va_get (D := dg) (ci := 1) (v := .ref h1) (C := RX1) (T := TX1) (N := 1) hx hb hts in1 hown hK hP 0 rfl rfl 0 (by decide) f9 (fun _ h9 => h9) rfl dX1_ofBranch_22 ?_
  refine lv_sipush (v := (nI 425)) hx hb dX1_ofBranch_25 (by decide) ?_
  refine lv_iload_n hx hb dX1_ofBranch_28 rfl (lv_at hl 1 rfl) ?_
  refine lv_iconst (v := (nI 5)) hx hb dX1_ofBranch_29 (by decide) ?_
  refine r_imul_n hx hb dX1_ofBranch_30 ?_
  refine r_iadd_n hx hb dX1_ofBranch_31 ?_
  refine lv_iload_n hx hb dX1_ofBranch_32 rfl (lv_at hl 2 rfl) ?_
  refine r_iadd_n hx hb dX1_ofBranch_33 ?_
  refine r_iald_n hx hb hK hP 1 rfl (k := ((425 + (e * 5)) + f)) (by omega) (by omega) dX1_ofBranch_34 ?_
  exact hret (c ((425 + (e * 5)) + f)) H locs _ ls (rfl) rfl hS dX1_ofBranch_35
theorem hdX1_setOfBranch : yX1_setOfBranch.cls = RX1 ∧ yX1_setOfBranch.cls ≠ "java/lang/invoke/MethodHandle" ∧ yX1_setOfBranch.cls ≠ "java/lang/invoke/VarHandle" ∧ (parseMethodDescriptor yX1_setOfBranch.desc).map (fun d => d.parameters.length) = some 3 := by decide +kernel
set_option maxHeartbeats 4000000 in
set_option maxRecDepth 100000 in
theorem kX1_setOfBranch (ln : Launch) (dg : va_G) (tq : ClassId × ClassId) (h0 h1 : Nat) (c : Row) (e f : Nat) (v : Int32) (he : e < 10) (hf : f < 5) : MV ln yX1_setOfBranch wsX1_setOfBranch (rmm 0 0) dg tq [.ref h0, .int (nI e), .int (nI f), .int v] [(h0, .inr (1, [.ref h1])), (h1, .inl (tq.1, 1473, .inl c))] (fun (u : Unit) => True) (fun u => [(h0, .inr (1, [.ref h1])), (h1, .inl (tq.1, 1473, .inl (upd c (425 + e * 5 + f) v)))]) := by
  refine MV.enter cX1_setOfBranch 4 (by decide) rfl rfl (Nat.le_of_ble_eq_true rfl) ?_
  intro pP eE sS mM aA bB mT cC QQ AA hA hAT hret H locs hP hD hS ls hl
  obtain ⟨hx, hb, hml, hown, hts, hK, hN⟩ := hAT
  have hown : sS.vm.findClass RX1 = some mM.cls := hown
  have hl : lv_has ls 4 [(0, .ref h0), (1, .int (nI e)), (2, .int (nI f)), (3, .int v)] := hl
  have in1 : ∀ w ∈ u_ws RX1 TX1 1, w ∈ wsX1_setOfBranch := (fun _ h9 => List.mem_cons_of_mem _ (List.mem_append_right _ h9))
  have f9 := hts (.fieldLink RX1 9 "OrphanChain$Ledger" "cells" "[I") (List.mem_of_getElem? (i := 1) rfl)
  refine lv_iload_n hx hb dX1_setOfBranch_0 rfl (lv_at hl 1 rfl) ?_
  refine r_if_lt (tgt := 34) hx hb (nI_tI (by omega)) dX1_setOfBranch_1 (by decide) (fun c1 => False.elim (by omega)) (fun c1 => ?_)
  refine lv_iload_n hx hb dX1_setOfBranch_4 rfl (lv_at hl 1 rfl) ?_
  refine lv_bipush (v := (nI 10)) hx hb dX1_setOfBranch_5 (by decide) ?_
  refine r_icmp_ge (tgt := 34) hx hb (nI_tI (by omega)) (nI_tI (by omega)) dX1_setOfBranch_7 (by decide) (fun c7 => False.elim (by omega)) (fun c7 => ?_)
  refine lv_iload_n hx hb dX1_setOfBranch_10 rfl (lv_at hl 2 rfl) ?_
  refine r_if_lt (tgt := 34) hx hb (nI_tI (by omega)) dX1_setOfBranch_11 (by decide) (fun c11 => False.elim (by omega)) (fun c11 => ?_)
  refine lv_iload_n hx hb dX1_setOfBranch_14 rfl (lv_at hl 2 rfl) ?_
  refine lv_iconst (v := (nI 5)) hx hb dX1_setOfBranch_15 (by decide) ?_
  refine r_icmp_ge (tgt := 34) hx hb (nI_tI (by omega)) (nI_tI (by omega)) dX1_setOfBranch_16 (by decide) (fun c16 => False.elim (by omega)) (fun c16 => ?_)
  refine lv_aload_n hx hb dX1_setOfBranch_19 rfl (lv_at hl 0 rfl) ?_
  refine va_get (D := dg) (ci := 1) (v := .ref h1) (C := RX1) (T := TX1) (N := 1) hx hb hts in1 hown hK hP 0 rfl rfl 0 (by decide) f9 (fun _ h9 => h9) rfl dX1_setOfBranch_20 ?_
  refine lv_sipush (v := (nI 425)) hx hb dX1_setOfBranch_23 (by decide) ?_
  refine lv_iload_n hx hb dX1_setOfBranch_26 rfl (lv_at hl 1 rfl) ?_
  refine lv_iconst (v := (nI 5)) hx hb dX1_setOfBranch_27 (by decide) ?_
  refine r_imul_n hx hb dX1_setOfBranch_28 ?_
  refine r_iadd_n hx hb dX1_setOfBranch_29 ?_
  refine lv_iload_n hx hb dX1_setOfBranch_30 rfl (lv_at hl 2 rfl) ?_
  refine r_iadd_n hx hb dX1_setOfBranch_31 ?_
  refine lv_iload_n hx hb dX1_setOfBranch_32 rfl (lv_at hl 3 rfl) ?_
  refine r_iast_n hx hb hK hP hD hS 1 rfl (k := ((425 + (e * 5)) + f)) (by omega) (by omega) dX1_setOfBranch_33 (fun H locs hP hD hS => ?_)
  have hP : va_P dg vwCl [(h0, .inr (1, [.ref h1])), (h1, .inl (tq.1, 1473, .inl (upd c ((425 + (e * 5)) + f) v)))] H := hP
  have hD : va_D AA [(h0, .inr (1, [.ref h1])), (h1, .inl (tq.1, 1473, .inl (upd c ((425 + (e * 5)) + f) v)))] := hD
  exact hret (()) H locs _ ls (trivial) (hP.sub [0, 1] rfl) (hD.sub [0, 1] (by decide) rfl) hS dX1_setOfBranch_34
theorem hdX1_ofSeal : yX1_ofSeal.cls = RX1 ∧ yX1_ofSeal.cls ≠ "java/lang/invoke/MethodHandle" ∧ yX1_ofSeal.cls ≠ "java/lang/invoke/VarHandle" ∧ (parseMethodDescriptor yX1_ofSeal.desc).map (fun d => d.parameters.length) = some 2 := by decide +kernel
set_option maxHeartbeats 4000000 in
set_option maxRecDepth 100000 in
theorem kX1_ofSeal (ln : Launch) (dg : va_G) (tq : ClassId × ClassId) (h0 h1 : Nat) (c : Row) (e f : Nat) (he : e < 8) (hf : f < 2) : MR ln yX1_ofSeal wsX1_ofSeal (rmm 0 0) dg tq [.ref h0, .int (nI e), .int (nI f)] [(h0, .inr (1, [.ref h1])), (h1, .inl (tq.1, 1473, .inl c))] (fun r => r = (c (475 + e * 2 + f))) := by
  refine MR.enter cX1_ofSeal 3 .int (by decide) rfl rfl (Nat.le_of_ble_eq_true rfl) ?_
  intro pP eE sS mM aA bB mT cC QQ AA hA hAT hret H locs hP hS ls hl
  obtain ⟨hx, hb, hml, hown, hts, hK, hN⟩ := hAT
  have hown : sS.vm.findClass RX1 = some mM.cls := hown
  have hl : lv_has ls 3 [(0, .ref h0), (1, .int (nI e)), (2, .int (nI f))] := hl
  have in1 : ∀ w ∈ u_ws RX1 TX1 1, w ∈ wsX1_ofSeal := (fun _ h9 => List.mem_cons_of_mem _ (List.mem_append_right _ h9))
  have f9 := hts (.fieldLink RX1 9 "OrphanChain$Ledger" "cells" "[I") (List.mem_of_getElem? (i := 1) rfl)
  refine lv_iload_n hx hb dX1_ofSeal_0 rfl (lv_at hl 1 rfl) ?_
  refine r_if_lt (tgt := 19) hx hb (nI_tI (by omega)) dX1_ofSeal_1 (by decide) (fun c1 => False.elim (by omega)) (fun c1 => ?_)
  refine lv_iload_n hx hb dX1_ofSeal_4 rfl (lv_at hl 1 rfl) ?_
  refine lv_bipush (v := (nI 8)) hx hb dX1_ofSeal_5 (by decide) ?_
  refine r_icmp_ge (tgt := 19) hx hb (nI_tI (by omega)) (nI_tI (by omega)) dX1_ofSeal_7 (by decide) (fun c7 => False.elim (by omega)) (fun c7 => ?_)
  refine lv_iload_n hx hb dX1_ofSeal_10 rfl (lv_at hl 2 rfl) ?_
  refine r_if_lt (tgt := 19) hx hb (nI_tI (by omega)) dX1_ofSeal_11 (by decide) (fun c11 => False.elim (by omega)) (fun c11 => ?_)
  refine lv_iload_n hx hb dX1_ofSeal_14 rfl (lv_at hl 2 rfl) ?_
  refine lv_iconst (v := (nI 2)) hx hb dX1_ofSeal_15 (by decide) ?_
  refine r_icmp_lt (tgt := 21) hx hb (nI_tI (by omega)) (nI_tI (by omega)) dX1_ofSeal_16 (by decide) (fun c16 => ?_) (fun c16 => False.elim (by omega))
  refine lv_aload_n hx hb dX1_ofSeal_21 rfl (lv_at hl 0 rfl) ?_
  refine va_get (D := dg) (ci := 1) (v := .ref h1) (C := RX1) (T := TX1) (N := 1) hx hb hts in1 hown hK hP 0 rfl rfl 0 (by decide) f9 (fun _ h9 => h9) rfl dX1_ofSeal_22 ?_
  refine lv_sipush (v := (nI 475)) hx hb dX1_ofSeal_25 (by decide) ?_
  refine lv_iload_n hx hb dX1_ofSeal_28 rfl (lv_at hl 1 rfl) ?_
  refine lv_iconst (v := (nI 2)) hx hb dX1_ofSeal_29 (by decide) ?_
  refine r_imul_n hx hb dX1_ofSeal_30 ?_
  refine r_iadd_n hx hb dX1_ofSeal_31 ?_
  refine lv_iload_n hx hb dX1_ofSeal_32 rfl (lv_at hl 2 rfl) ?_
  refine r_iadd_n hx hb dX1_ofSeal_33 ?_
  refine r_iald_n hx hb hK hP 1 rfl (k := ((475 + (e * 2)) + f)) (by omega) (by omega) dX1_ofSeal_34 ?_
  exact hret (c ((475 + (e * 2)) + f)) H locs _ ls (rfl) rfl hS dX1_ofSeal_35
theorem hdX1_setOfSeal : yX1_setOfSeal.cls = RX1 ∧ yX1_setOfSeal.cls ≠ "java/lang/invoke/MethodHandle" ∧ yX1_setOfSeal.cls ≠ "java/lang/invoke/VarHandle" ∧ (parseMethodDescriptor yX1_setOfSeal.desc).map (fun d => d.parameters.length) = some 3 := by decide +kernel
set_option maxHeartbeats 4000000 in
set_option maxRecDepth 100000 in
theorem kX1_setOfSeal (ln : Launch) (dg : va_G) (tq : ClassId × ClassId) (h0 h1 : Nat) (c : Row) (e f : Nat) (v : Int32) (he : e < 8) (hf : f < 2) : MV ln yX1_setOfSeal wsX1_setOfSeal (rmm 0 0) dg tq [.ref h0, .int (nI e), .int (nI f), .int v] [(h0, .inr (1, [.ref h1])), (h1, .inl (tq.1, 1473, .inl c))] (fun (u : Unit) => True) (fun u => [(h0, .inr (1, [.ref h1])), (h1, .inl (tq.1, 1473, .inl (upd c (475 + e * 2 + f) v)))]) := by
  refine MV.enter cX1_setOfSeal 4 (by decide) rfl rfl (Nat.le_of_ble_eq_true rfl) ?_
  intro pP eE sS mM aA bB mT cC QQ AA hA hAT hret H locs hP hD hS ls hl
  obtain ⟨hx, hb, hml, hown, hts, hK, hN⟩ := hAT
  have hown : sS.vm.findClass RX1 = some mM.cls := hown
  have hl : lv_has ls 4 [(0, .ref h0), (1, .int (nI e)), (2, .int (nI f)), (3, .int v)] := hl
  have in1 : ∀ w ∈ u_ws RX1 TX1 1, w ∈ wsX1_setOfSeal := (fun _ h9 => List.mem_cons_of_mem _ (List.mem_append_right _ h9))
  have f9 := hts (.fieldLink RX1 9 "OrphanChain$Ledger" "cells" "[I") (List.mem_of_getElem? (i := 1) rfl)
  refine lv_iload_n hx hb dX1_setOfSeal_0 rfl (lv_at hl 1 rfl) ?_
  refine r_if_lt (tgt := 34) hx hb (nI_tI (by omega)) dX1_setOfSeal_1 (by decide) (fun c1 => False.elim (by omega)) (fun c1 => ?_)
  refine lv_iload_n hx hb dX1_setOfSeal_4 rfl (lv_at hl 1 rfl) ?_
  refine lv_bipush (v := (nI 8)) hx hb dX1_setOfSeal_5 (by decide) ?_
  refine r_icmp_ge (tgt := 34) hx hb (nI_tI (by omega)) (nI_tI (by omega)) dX1_setOfSeal_7 (by decide) (fun c7 => False.elim (by omega)) (fun c7 => ?_)
  refine lv_iload_n hx hb dX1_setOfSeal_10 rfl (lv_at hl 2 rfl) ?_
  refine r_if_lt (tgt := 34) hx hb (nI_tI (by omega)) dX1_setOfSeal_11 (by decide) (fun c11 => False.elim (by omega)) (fun c11 => ?_)
  refine lv_iload_n hx hb dX1_setOfSeal_14 rfl (lv_at hl 2 rfl) ?_
  refine lv_iconst (v := (nI 2)) hx hb dX1_setOfSeal_15 (by decide) ?_
  refine r_icmp_ge (tgt := 34) hx hb (nI_tI (by omega)) (nI_tI (by omega)) dX1_setOfSeal_16 (by decide) (fun c16 => False.elim (by omega)) (fun c16 => ?_)
  refine lv_aload_n hx hb dX1_setOfSeal_19 rfl (lv_at hl 0 rfl) ?_
  refine va_get (D := dg) (ci := 1) (v := .ref h1) (C := RX1) (T := TX1) (N := 1) hx hb hts in1 hown hK hP 0 rfl rfl 0 (by decide) f9 (fun _ h9 => h9) rfl dX1_setOfSeal_20 ?_
  refine lv_sipush (v := (nI 475)) hx hb dX1_setOfSeal_23 (by decide) ?_
  refine lv_iload_n hx hb dX1_setOfSeal_26 rfl (lv_at hl 1 rfl) ?_
  refine lv_iconst (v := (nI 2)) hx hb dX1_setOfSeal_27 (by decide) ?_
  refine r_imul_n hx hb dX1_setOfSeal_28 ?_
  refine r_iadd_n hx hb dX1_setOfSeal_29 ?_
  refine lv_iload_n hx hb dX1_setOfSeal_30 rfl (lv_at hl 2 rfl) ?_
  refine r_iadd_n hx hb dX1_setOfSeal_31 ?_
  refine lv_iload_n hx hb dX1_setOfSeal_32 rfl (lv_at hl 3 rfl) ?_
  refine r_iast_n hx hb hK hP hD hS 1 rfl (k := ((475 + (e * 2)) + f)) (by omega) (by omega) dX1_setOfSeal_33 (fun H locs hP hD hS => ?_)
  have hP : va_P dg vwCl [(h0, .inr (1, [.ref h1])), (h1, .inl (tq.1, 1473, .inl (upd c ((475 + (e * 2)) + f) v)))] H := hP
  have hD : va_D AA [(h0, .inr (1, [.ref h1])), (h1, .inl (tq.1, 1473, .inl (upd c ((475 + (e * 2)) + f) v)))] := hD
  exact hret (()) H locs _ ls (trivial) (hP.sub [0, 1] rfl) (hD.sub [0, 1] (by decide) rfl) hS dX1_setOfSeal_34
theorem hdX1_hasEntry : yX1_hasEntry.cls = RX1 ∧ yX1_hasEntry.cls ≠ "java/lang/invoke/MethodHandle" ∧ yX1_hasEntry.cls ≠ "java/lang/invoke/VarHandle" ∧ (parseMethodDescriptor yX1_hasEntry.desc).map (fun d => d.parameters.length) = some 1 := by decide +kernel
set_option maxHeartbeats 4000000 in
set_option maxRecDepth 100000 in
theorem kX1_hasEntry (ln : Launch) (dg : va_G) (tq : ClassId × ClassId) (h0 h1 : Nat) (c : Row) (s : Row) (hR : XR s c) (hW : WF s) (x : Int32) : MR ln yX1_hasEntry wsX1_hasEntry (rmm 1 22) dg tq [.ref h0, .int x] [(h0, .inr (1, [.ref h1])), (h1, .inl (tq.1, 1473, .inl c))] (fun r => r = (bI (hasN x (nE s)))) := by
  refine MR.enter cX1_hasEntry 2 .boolean (by decide) rfl rfl (Nat.le_of_ble_eq_true rfl) ?_
  intro pP eE sS mM aA bB mT cC QQ AA hA hAT hret H locs hP hS ls hl
  obtain ⟨hx, hb, hml, hown, hts, hK, hN⟩ := hAT
  have hown : sS.vm.findClass RX1 = some mM.cls := hown
  have hl : lv_has ls 2 [(0, .ref h0), (1, .int x)] := hl
  have st_X7_isWithin := hts (.static yX7_isWithin) (List.mem_of_getElem? (i := 7) rfl)
  have iRX7 := hts (.initialized RX7) (List.mem_of_getElem? (i := 8) rfl)
  have hn60 := hW.n60
  have hb10 := hW.b10
  have hs8 := hW.s8
  refine lv_iload_n hx hb dX1_hasEntry_0 rfl (lv_at hl 1 rfl) ?_
  refine lv_iconst (v := (nI 0)) hx hb dX1_hasEntry_1 (by decide) ?_
  refine lv_aload_n hx hb dX1_hasEntry_2 rfl (lv_at hl 0 rfl) ?_
  refine lv_iconst (v := (nI 0)) hx hb dX1_hasEntry_3 (by decide) ?_
  refine call_x (va_runV (As := [.int (nI 0)]) (rest := [.int (nI 0), .int x]) ⟨hx, hb, hml, hown, hts⟩ (kX1_number ln dg tq (h0 := h0) (h1 := h1) (c := c) (k := 0) (hk := (by omega)) H.size) (cwV 1 hts gX1_hasEntry_X1_number rfl rfl rfl hdX1_number ⟨Nat.le_of_ble_eq_true rfl, Nat.le_of_ble_eq_true rfl⟩) (preVR hK hN hP [0, 1] rfl 0 rfl rfl [.int (nI 0)]) rfl rfl hl.1 rfl (lv_room (Nat.le_of_ble_eq_true rfl)) dX1_hasEntry_4 ⟨Nat.le_refl _, Nat.le_refl _⟩) hP hS hA (fun H locs hP hS => ?_)
  refine r_top (show (c 0) = (nI (nE s)) from (hR.nn hW)) ?_
  refine lv_iconst (v := (nI 1)) hx hb dX1_hasEntry_7 (by decide) ?_
  refine r_isub_z hx hb (nI_iI _) (nI_iI _) dX1_hasEntry_8 ?_
  refine call_x (va_runSN (As := [.int x, .int (nI 0), .int (iI (((nE s : Nat) : Int) - ((1 : Nat) : Int)))]) (rest := []) ⟨hx, hb, hml, hown, hts⟩ (kX7_isWithin ln dg tq (v := x) (lo := (nI 0)) (hi := (iI (((nE s : Nat) : Int) - ((1 : Nat) : Int)))) H.size) ⟨va_cnB 3 hts gX1_hasEntry_X7_isWithin_n28 rfl rfl rfl hN.1 iRX7 hdX7_isWithin.2 ⟨Nat.le_of_ble_eq_true rfl, Nat.le_of_ble_eq_true rfl⟩, st_X7_isWithin, trivial⟩ (preS0 hK hN [.int x, .int (nI 0), .int (iI (((nE s : Nat) : Int) - ((1 : Nat) : Int)))]) rfl rfl hl.1 rfl (lv_room (Nat.le_of_ble_eq_true rfl)) dX1_hasEntry_9 ⟨Nat.le_refl _, Nat.le_refl _⟩) hP hS hA (fun H locs hP hS => ?_)
  exact hret (bI (inR x (nI 0) (iI (((nE s : Nat) : Int) - ((1 : Nat) : Int))))) H locs _ ls (by rw [inR_has (by omega)]) (narrow_bI _) hS dX1_hasEntry_12
theorem hdX1_hasSeal : yX1_hasSeal.cls = RX1 ∧ yX1_hasSeal.cls ≠ "java/lang/invoke/MethodHandle" ∧ yX1_hasSeal.cls ≠ "java/lang/invoke/VarHandle" ∧ (parseMethodDescriptor yX1_hasSeal.desc).map (fun d => d.parameters.length) = some 1 := by decide +kernel
set_option maxHeartbeats 4000000 in
set_option maxRecDepth 100000 in
theorem kX1_hasSeal (ln : Launch) (dg : va_G) (tq : ClassId × ClassId) (h0 h1 : Nat) (c : Row) (s : Row) (hR : XR s c) (hW : WF s) (x : Int32) : MR ln yX1_hasSeal wsX1_hasSeal (rmm 1 22) dg tq [.ref h0, .int x] [(h0, .inr (1, [.ref h1])), (h1, .inl (tq.1, 1473, .inl c))] (fun r => r = (bI (hasN x (nS s)))) := by
  refine MR.enter cX1_hasSeal 2 .boolean (by decide) rfl rfl (Nat.le_of_ble_eq_true rfl) ?_
  intro pP eE sS mM aA bB mT cC QQ AA hA hAT hret H locs hP hS ls hl
  obtain ⟨hx, hb, hml, hown, hts, hK, hN⟩ := hAT
  have hown : sS.vm.findClass RX1 = some mM.cls := hown
  have hl : lv_has ls 2 [(0, .ref h0), (1, .int x)] := hl
  have st_X7_isWithin := hts (.static yX7_isWithin) (List.mem_of_getElem? (i := 7) rfl)
  have iRX7 := hts (.initialized RX7) (List.mem_of_getElem? (i := 8) rfl)
  have hn60 := hW.n60
  have hb10 := hW.b10
  have hs8 := hW.s8
  refine lv_iload_n hx hb dX1_hasSeal_0 rfl (lv_at hl 1 rfl) ?_
  refine lv_iconst (v := (nI 0)) hx hb dX1_hasSeal_1 (by decide) ?_
  refine lv_aload_n hx hb dX1_hasSeal_2 rfl (lv_at hl 0 rfl) ?_
  refine lv_iconst (v := (nI 4)) hx hb dX1_hasSeal_3 (by decide) ?_
  refine call_x (va_runV (As := [.int (nI 4)]) (rest := [.int (nI 0), .int x]) ⟨hx, hb, hml, hown, hts⟩ (kX1_number ln dg tq (h0 := h0) (h1 := h1) (c := c) (k := 4) (hk := (by omega)) H.size) (cwV 1 hts gX1_hasSeal_X1_number rfl rfl rfl hdX1_number ⟨Nat.le_of_ble_eq_true rfl, Nat.le_of_ble_eq_true rfl⟩) (preVR hK hN hP [0, 1] rfl 0 rfl rfl [.int (nI 4)]) rfl rfl hl.1 rfl (lv_room (Nat.le_of_ble_eq_true rfl)) dX1_hasSeal_4 ⟨Nat.le_refl _, Nat.le_refl _⟩) hP hS hA (fun H locs hP hS => ?_)
  refine r_top (show (c 4) = (nI (nS s)) from (hR.ss hW)) ?_
  refine lv_iconst (v := (nI 1)) hx hb dX1_hasSeal_7 (by decide) ?_
  refine r_isub_z hx hb (nI_iI _) (nI_iI _) dX1_hasSeal_8 ?_
  refine call_x (va_runSN (As := [.int x, .int (nI 0), .int (iI (((nS s : Nat) : Int) - ((1 : Nat) : Int)))]) (rest := []) ⟨hx, hb, hml, hown, hts⟩ (kX7_isWithin ln dg tq (v := x) (lo := (nI 0)) (hi := (iI (((nS s : Nat) : Int) - ((1 : Nat) : Int)))) H.size) ⟨va_cnB 3 hts gX1_hasSeal_X7_isWithin_n28 rfl rfl rfl hN.1 iRX7 hdX7_isWithin.2 ⟨Nat.le_of_ble_eq_true rfl, Nat.le_of_ble_eq_true rfl⟩, st_X7_isWithin, trivial⟩ (preS0 hK hN [.int x, .int (nI 0), .int (iI (((nS s : Nat) : Int) - ((1 : Nat) : Int)))]) rfl rfl hl.1 rfl (lv_room (Nat.le_of_ble_eq_true rfl)) dX1_hasSeal_9 ⟨Nat.le_refl _, Nat.le_refl _⟩) hP hS hA (fun H locs hP hS => ?_)
  exact hret (bI (inR x (nI 0) (iI (((nS s : Nat) : Int) - ((1 : Nat) : Int))))) H locs _ ls (by rw [inR_has (by omega)]) (narrow_bI _) hS dX1_hasSeal_12
theorem hdX1_hasBranch : yX1_hasBranch.cls = RX1 ∧ yX1_hasBranch.cls ≠ "java/lang/invoke/MethodHandle" ∧ yX1_hasBranch.cls ≠ "java/lang/invoke/VarHandle" ∧ (parseMethodDescriptor yX1_hasBranch.desc).map (fun d => d.parameters.length) = some 1 := by decide +kernel
set_option maxHeartbeats 4000000 in
set_option maxRecDepth 100000 in
theorem kX1_hasBranch (ln : Launch) (dg : va_G) (tq : ClassId × ClassId) (h0 h1 : Nat) (c : Row) (s : Row) (hR : XR s c) (hW : WF s) (x : Int32) : MR ln yX1_hasBranch wsX1_hasBranch (rmm 1 22) dg tq [.ref h0, .int x] [(h0, .inr (1, [.ref h1])), (h1, .inl (tq.1, 1473, .inl c))] (fun r => r = (bI (hasN x (nB s)))) := by
  refine MR.enter cX1_hasBranch 2 .boolean (by decide) rfl rfl (Nat.le_of_ble_eq_true rfl) ?_
  intro pP eE sS mM aA bB mT cC QQ AA hA hAT hret H locs hP hS ls hl
  obtain ⟨hx, hb, hml, hown, hts, hK, hN⟩ := hAT
  have hown : sS.vm.findClass RX1 = some mM.cls := hown
  have hl : lv_has ls 2 [(0, .ref h0), (1, .int x)] := hl
  have st_X7_isWithin := hts (.static yX7_isWithin) (List.mem_of_getElem? (i := 7) rfl)
  have iRX7 := hts (.initialized RX7) (List.mem_of_getElem? (i := 8) rfl)
  have hn60 := hW.n60
  have hb10 := hW.b10
  have hs8 := hW.s8
  refine lv_iload_n hx hb dX1_hasBranch_0 rfl (lv_at hl 1 rfl) ?_
  refine lv_iconst (v := (nI 0)) hx hb dX1_hasBranch_1 (by decide) ?_
  refine lv_aload_n hx hb dX1_hasBranch_2 rfl (lv_at hl 0 rfl) ?_
  refine lv_iconst (v := (nI 3)) hx hb dX1_hasBranch_3 (by decide) ?_
  refine call_x (va_runV (As := [.int (nI 3)]) (rest := [.int (nI 0), .int x]) ⟨hx, hb, hml, hown, hts⟩ (kX1_number ln dg tq (h0 := h0) (h1 := h1) (c := c) (k := 3) (hk := (by omega)) H.size) (cwV 1 hts gX1_hasBranch_X1_number rfl rfl rfl hdX1_number ⟨Nat.le_of_ble_eq_true rfl, Nat.le_of_ble_eq_true rfl⟩) (preVR hK hN hP [0, 1] rfl 0 rfl rfl [.int (nI 3)]) rfl rfl hl.1 rfl (lv_room (Nat.le_of_ble_eq_true rfl)) dX1_hasBranch_4 ⟨Nat.le_refl _, Nat.le_refl _⟩) hP hS hA (fun H locs hP hS => ?_)
  refine r_top (show (c 3) = (nI (nB s)) from (hR.bb hW)) ?_
  refine lv_iconst (v := (nI 1)) hx hb dX1_hasBranch_7 (by decide) ?_
  refine r_isub_z hx hb (nI_iI _) (nI_iI _) dX1_hasBranch_8 ?_
  refine call_x (va_runSN (As := [.int x, .int (nI 0), .int (iI (((nB s : Nat) : Int) - ((1 : Nat) : Int)))]) (rest := []) ⟨hx, hb, hml, hown, hts⟩ (kX7_isWithin ln dg tq (v := x) (lo := (nI 0)) (hi := (iI (((nB s : Nat) : Int) - ((1 : Nat) : Int)))) H.size) ⟨va_cnB 3 hts gX1_hasBranch_X7_isWithin_n28 rfl rfl rfl hN.1 iRX7 hdX7_isWithin.2 ⟨Nat.le_of_ble_eq_true rfl, Nat.le_of_ble_eq_true rfl⟩, st_X7_isWithin, trivial⟩ (preS0 hK hN [.int x, .int (nI 0), .int (iI (((nB s : Nat) : Int) - ((1 : Nat) : Int)))]) rfl rfl hl.1 rfl (lv_room (Nat.le_of_ble_eq_true rfl)) dX1_hasBranch_9 ⟨Nat.le_refl _, Nat.le_refl _⟩) hP hS hA (fun H locs hP hS => ?_)
  exact hret (bI (inR x (nI 0) (iI (((nB s : Nat) : Int) - ((1 : Nat) : Int))))) H locs _ ls (by rw [inR_has (by omega)]) (narrow_bI _) hS dX1_hasBranch_12
theorem hdX1_room : yX1_room.cls = RX1 ∧ yX1_room.cls ≠ "java/lang/invoke/MethodHandle" ∧ yX1_room.cls ≠ "java/lang/invoke/VarHandle" ∧ (parseMethodDescriptor yX1_room.desc).map (fun d => d.parameters.length) = some 0 := by decide +kernel
set_option maxHeartbeats 4000000 in
set_option maxRecDepth 100000 in
theorem kX1_room (ln : Launch) (dg : va_G) (tq : ClassId × ClassId) (h0 h1 : Nat) (c : Row) (s : Row) (hR : XR s c) (hW : WF s) : MR ln yX1_room wsX1_room (rmm 1 21) dg tq [.ref h0] [(h0, .inr (1, [.ref h1])), (h1, .inl (tq.1, 1473, .inl c))] (fun r => r = (nI (60 - nE s))) := by
  refine MR.enter cX1_room 1 .int (by decide) rfl rfl (Nat.le_of_ble_eq_true rfl) ?_
  intro pP eE sS mM aA bB mT cC QQ AA hA hAT hret H locs hP hS ls hl
  obtain ⟨hx, hb, hml, hown, hts, hK, hN⟩ := hAT
  have hown : sS.vm.findClass RX1 = some mM.cls := hown
  have hl : lv_has ls 1 [(0, .ref h0)] := hl
  have hn60 := hW.n60
  have hb10 := hW.b10
  have hs8 := hW.s8
  refine lv_bipush (v := (nI 60)) hx hb dX1_room_0 (by decide) ?_
  refine lv_aload_n hx hb dX1_room_2 rfl (lv_at hl 0 rfl) ?_
  refine lv_iconst (v := (nI 0)) hx hb dX1_room_3 (by decide) ?_
  refine call_x (va_runV (As := [.int (nI 0)]) (rest := [.int (nI 60)]) ⟨hx, hb, hml, hown, hts⟩ (kX1_number ln dg tq (h0 := h0) (h1 := h1) (c := c) (k := 0) (hk := (by omega)) H.size) (cwV 1 hts gX1_room_X1_number rfl rfl rfl hdX1_number ⟨Nat.le_of_ble_eq_true rfl, Nat.le_of_ble_eq_true rfl⟩) (preVR hK hN hP [0, 1] rfl 0 rfl rfl [.int (nI 0)]) rfl rfl hl.1 rfl (lv_room (Nat.le_of_ble_eq_true rfl)) dX1_room_4 ⟨Nat.le_refl _, Nat.le_refl _⟩) hP hS hA (fun H locs hP hS => ?_)
  refine r_top (show (c 0) = (nI (nE s)) from (hR.nn hW)) ?_
  refine r_isub_n hx hb (by omega) dX1_room_7 ?_
  exact hret (nI (60 - (nE s))) H locs _ ls (rfl) rfl hS dX1_room_8
theorem hdX1_isOnPath : yX1_isOnPath.cls = RX1 ∧ yX1_isOnPath.cls ≠ "java/lang/invoke/MethodHandle" ∧ yX1_isOnPath.cls ≠ "java/lang/invoke/VarHandle" ∧ (parseMethodDescriptor yX1_isOnPath.desc).map (fun d => d.parameters.length) = some 2 := by decide +kernel
set_option maxHeartbeats 4000000 in
set_option maxRecDepth 100000 in
theorem kX1_isOnPath (ln : Launch) (dg : va_G) (tq : ClassId × ClassId) (h0 h1 : Nat) (c : Row) (s : Row) (hR : XR s c) (hW : WF s) (x y : Nat) (hx : x < nE s) (hy : y < nE s) : MR ln yX1_isOnPath wsX1_isOnPath (rmm 1 22) dg tq [.ref h0, .int (nI x), .int (nI y)] [(h0, .inr (1, [.ref h1])), (h1, .inl (tq.1, 1473, .inl c))] (fun r => r = (bI (onP s x y))) := by
  refine MR.enter cX1_isOnPath 5 .boolean (by decide) rfl rfl (Nat.le_of_ble_eq_true rfl) ?_
  intro pP eE sS mM aA bB mT cC QQ AA hA hAT hret H locs hP hS ls hl
  obtain ⟨hx, hb, hml, hown, hts, hK, hN⟩ := hAT
  have hown : sS.vm.findClass RX1 = some mM.cls := hown
  have hl : lv_has ls 5 [(0, .ref h0), (1, .int (nI x)), (2, .int (nI y))] := hl
  have hn60 := hW.n60
  have hb10 := hW.b10
  have hs8 := hW.s8
  refine lv_iload_n hx hb dX1_isOnPath_0 rfl (lv_at hl 2 rfl) ?_
  refine lv_istore_n (lv' := [(3, .int (nI y)), (0, .ref h0), (1, .int (nI x)), (2, .int (nI y))]) hx hb dX1_isOnPath_1 rfl hl (by decide) rfl (fun ls hl => ?_)
  refine lv_iconst (v := (nI 0)) hx hb dX1_isOnPath_2 (by decide) ?_
  refine lv_istore (lv' := [(4, .int (nI 0)), (3, .int (nI y)), (0, .ref h0), (1, .int (nI x)), (2, .int (nI y))]) hx hb dX1_isOnPath_3 hl (by decide) rfl (fun ls hl => ?_)
  have loop5 : ∀ (fu : Nat) (at_ : Nat) (st_ : Nat) (H : Heap) (locs : List Loc) (ls : Array Slot), (onP s x y = onP s x at_ ∧ at_ + st_ ≤ y) → at_ < fu → va_P dg vwCl [(h0, .inr (1, [.ref h1])), (h1, .inl (tq.1, 1473, .inl c))] H → va_S AA sS.heap H locs → lv_has ls 5 [(0, .ref h0), (1, .int (nI x)), (2, .int (nI y)), (3, .int (nI at_)), (4, .int (nI st_))] → W pP ln eE (rmm 1 22) sS mM aA bB mT cC H locs 0 0 QQ (F0 mM 5 ls []) := by
    intro fu
    induction fu with
    | zero => intro at_ st_ H locs ls _ hm; exact absurd hm (Nat.not_lt_zero _)
    | succ fu ih5 =>
      intro at_ st_ H locs ls hinv hm hP hS hl
      obtain ⟨hi1, hi2⟩ := hinv
      refine lv_iload hx hb dX1_isOnPath_5 (lv_at hl 4 rfl) ?_
      refine lv_bipush (v := (nI 60)) hx hb dX1_isOnPath_7 (by decide) ?_
      refine r_icmp_ge (tgt := 30) hx hb (nI_tI (by omega)) (nI_tI (by omega)) dX1_isOnPath_9 (by decide) (fun c9 => False.elim (by omega)) (fun c9 => ?_)
      refine lv_iload_n hx hb dX1_isOnPath_12 rfl (lv_at hl 3 rfl) ?_
      refine lv_iload_n hx hb dX1_isOnPath_13 rfl (lv_at hl 1 rfl) ?_
      refine r_icmp_le (tgt := 30) hx hb (nI_tI (by omega)) (nI_tI (by omega)) dX1_isOnPath_14 (by decide) (fun c14 => ?_) (fun c14 => ?_)
      · skip
        refine lv_iload_n hx hb dX1_isOnPath_30 rfl (lv_at hl 3 rfl) ?_
        refine lv_iload_n hx hb dX1_isOnPath_31 rfl (lv_at hl 1 rfl) ?_
        refine r_icmp_ne (tgt := 39) hx hb (nI_tI (by omega)) (nI_tI (by omega)) dX1_isOnPath_32 (by decide) (fun c32 => ?_) (fun c32 => ?_)
        · skip
          refine lv_iconst (v := (nI 0)) hx hb dX1_isOnPath_39 (by decide) ?_
          exact hret (nI 0) H locs _ ls (by rw [hi1, onP_le (by omega)]; first | exact (bI_pos (by omega)).symm | exact (bI_neg (by omega)).symm) rfl hS dX1_isOnPath_40
        · skip
          refine lv_iconst (v := (nI 1)) hx hb dX1_isOnPath_35 (by decide) ?_
          refine lv_goto (tgt := 40) hx hb dX1_isOnPath_36 (by decide) ?_
          exact hret (nI 1) H locs _ ls (by rw [hi1, onP_le (by omega)]; first | exact (bI_pos (by omega)).symm | exact (bI_neg (by omega)).symm) rfl hS dX1_isOnPath_40
      · skip
        refine lv_aload_n hx hb dX1_isOnPath_17 rfl (lv_at hl 0 rfl) ?_
        refine lv_iload_n hx hb dX1_isOnPath_18 rfl (lv_at hl 3 rfl) ?_
        refine lv_iconst (v := (nI 4)) hx hb dX1_isOnPath_19 (by decide) ?_
        refine call_x (va_runV (As := [.int (nI at_), .int (nI 4)]) (rest := []) ⟨hx, hb, hml, hown, hts⟩ (kX1_ofEntry ln dg tq (h0 := h0) (h1 := h1) (c := c) (e := at_) (f := 4) (he := (by omega)) (hf := (by omega)) H.size) (cwV 2 hts gX1_isOnPath_X1_ofEntry rfl rfl rfl hdX1_ofEntry ⟨Nat.le_of_ble_eq_true rfl, Nat.le_of_ble_eq_true rfl⟩) (preVR hK hN hP [0, 1] rfl 0 rfl rfl [.int (nI at_), .int (nI 4)]) rfl rfl hl.1 rfl (lv_room (Nat.le_of_ble_eq_true rfl)) dX1_isOnPath_20 ⟨Nat.le_refl _, Nat.le_refl _⟩) hP hS hA (fun H locs hP hS => ?_)
        refine r_top (show (c (5 + at_ * 7 + 4)) = (nI (pa s at_)) from hR.xpa hW (by omega) (by omega)) ?_
        refine lv_istore_n (lv' := [(3, .int (nI (pa s at_))), (0, .ref h0), (1, .int (nI x)), (2, .int (nI y)), (4, .int (nI st_))]) hx hb dX1_isOnPath_23 rfl hl (by decide) rfl (fun ls hl => ?_)
        refine lv_iinc (v := (nI (st_ + 1))) (lv' := [(4, .int (nI (st_ + 1))), (3, .int (nI (pa s at_))), (0, .ref h0), (1, .int (nI x)), (2, .int (nI y))]) hx hb dX1_isOnPath_24 hl (k := 4) rfl (nI_add _ _) (by decide) rfl (fun ls hl => ?_)
        refine lv_goto (tgt := 5) hx hb dX1_isOnPath_27 (by decide) ?_
        exact ih5 (pa s at_) (st_ + 1) H locs ls (⟨by rw [hi1, onP_s hW (by omega) (by omega)], by have hpl := hW.pl (e := at_) (by omega) (by omega); omega⟩) (by have hpl := hW.pl (e := at_) (by omega) (by omega); omega) (hP.sub [0, 1] rfl) hS (lv_sub hl [2, 3, 4, 1, 0] rfl)
  exact loop5 _ y 0 H locs ls (⟨rfl, by omega⟩) (Nat.lt_succ_self _) (hP.sub [0, 1] rfl) hS (lv_sub hl [2, 3, 4, 1, 0] rfl)
theorem hdX1_pathLength : yX1_pathLength.cls = RX1 ∧ yX1_pathLength.cls ≠ "java/lang/invoke/MethodHandle" ∧ yX1_pathLength.cls ≠ "java/lang/invoke/VarHandle" ∧ (parseMethodDescriptor yX1_pathLength.desc).map (fun d => d.parameters.length) = some 1 := by decide +kernel
set_option maxHeartbeats 4000000 in
set_option maxRecDepth 100000 in
theorem kX1_pathLength (ln : Launch) (dg : va_G) (tq : ClassId × ClassId) (h0 h1 : Nat) (c : Row) (s : Row) (hR : XR s c) (hW : WF s) (y : Nat) (hy : y < nE s) : MR ln yX1_pathLength wsX1_pathLength (rmm 1 22) dg tq [.ref h0, .int (nI y)] [(h0, .inr (1, [.ref h1])), (h1, .inl (tq.1, 1473, .inl c))] (fun r => r = (nI (dep s y))) := by
  refine MR.enter cX1_pathLength 5 .int (by decide) rfl rfl (Nat.le_of_ble_eq_true rfl) ?_
  intro pP eE sS mM aA bB mT cC QQ AA hA hAT hret H locs hP hS ls hl
  obtain ⟨hx, hb, hml, hown, hts, hK, hN⟩ := hAT
  have hown : sS.vm.findClass RX1 = some mM.cls := hown
  have hl : lv_has ls 5 [(0, .ref h0), (1, .int (nI y))] := hl
  have hn60 := hW.n60
  have hb10 := hW.b10
  have hs8 := hW.s8
  refine lv_iconst (v := (nI 1)) hx hb dX1_pathLength_0 (by decide) ?_
  refine lv_istore_n (lv' := [(2, .int (nI 1)), (0, .ref h0), (1, .int (nI y))]) hx hb dX1_pathLength_1 rfl hl (by decide) rfl (fun ls hl => ?_)
  refine lv_iload_n hx hb dX1_pathLength_2 rfl (lv_at hl 2 rfl) ?_
  refine lv_istore_n (lv' := [(3, .int (nI y)), (2, .int (nI 1)), (0, .ref h0), (1, .int (nI y))]) hx hb dX1_pathLength_3 rfl hl (by decide) rfl (fun ls hl => ?_)
  refine lv_iconst (v := (nI 0)) hx hb dX1_pathLength_4 (by decide) ?_
  refine lv_istore (lv' := [(4, .int (nI 0)), (3, .int (nI y)), (2, .int (nI 1)), (0, .ref h0), (1, .int (nI y))]) hx hb dX1_pathLength_5 hl (by decide) rfl (fun ls hl => ?_)
  have loop7 : ∀ (fu : Nat) (at_ : Nat) (st_ : Nat) (n_ : Nat) (H : Heap) (locs : List Loc) (ls : Array Slot), (dep s y + 1 = n_ + dep s at_ ∧ at_ + st_ ≤ y) → at_ < fu → va_P dg vwCl [(h0, .inr (1, [.ref h1])), (h1, .inl (tq.1, 1473, .inl c))] H → va_S AA sS.heap H locs → lv_has ls 5 [(0, .ref h0), (1, .int (nI y)), (2, .int (nI n_)), (3, .int (nI at_)), (4, .int (nI st_))] → W pP ln eE (rmm 1 22) sS mM aA bB mT cC H locs 0 0 QQ (F0 mM 7 ls []) := by
    intro fu
    induction fu with
    | zero => intro at_ st_ n_ H locs ls _ hm; exact absurd hm (Nat.not_lt_zero _)
    | succ fu ih7 =>
      intro at_ st_ n_ H locs ls hinv hm hP hS hl
      obtain ⟨hi1, hi2⟩ := hinv
      refine lv_iload hx hb dX1_pathLength_7 (lv_at hl 4 rfl) ?_
      refine lv_bipush (v := (nI 60)) hx hb dX1_pathLength_9 (by decide) ?_
      refine r_icmp_ge (tgt := 34) hx hb (nI_tI (by omega)) (nI_tI (by omega)) dX1_pathLength_11 (by decide) (fun c11 => False.elim (by omega)) (fun c11 => ?_)
      refine lv_iload_n hx hb dX1_pathLength_14 rfl (lv_at hl 3 rfl) ?_
      refine r_if_le (tgt := 34) hx hb (nI_tI (by omega)) dX1_pathLength_15 (by decide) (fun c15 => ?_) (fun c15 => ?_)
      · skip
        refine lv_iload_n hx hb dX1_pathLength_34 rfl (lv_at hl 2 rfl) ?_
        exact hret (nI n_) H locs _ ls (by have e0 : at_ = 0 := (by omega); subst e0; rw [dep_0] at hi1; congr 1; omega) rfl hS dX1_pathLength_35
      · skip
        refine lv_aload_n hx hb dX1_pathLength_18 rfl (lv_at hl 0 rfl) ?_
        refine lv_iload_n hx hb dX1_pathLength_19 rfl (lv_at hl 3 rfl) ?_
        refine lv_iconst (v := (nI 4)) hx hb dX1_pathLength_20 (by decide) ?_
        refine call_x (va_runV (As := [.int (nI at_), .int (nI 4)]) (rest := []) ⟨hx, hb, hml, hown, hts⟩ (kX1_ofEntry ln dg tq (h0 := h0) (h1 := h1) (c := c) (e := at_) (f := 4) (he := (by omega)) (hf := (by omega)) H.size) (cwV 2 hts gX1_pathLength_X1_ofEntry rfl rfl rfl hdX1_ofEntry ⟨Nat.le_of_ble_eq_true rfl, Nat.le_of_ble_eq_true rfl⟩) (preVR hK hN hP [0, 1] rfl 0 rfl rfl [.int (nI at_), .int (nI 4)]) rfl rfl hl.1 rfl (lv_room (Nat.le_of_ble_eq_true rfl)) dX1_pathLength_21 ⟨Nat.le_refl _, Nat.le_refl _⟩) hP hS hA (fun H locs hP hS => ?_)
        refine r_top (show (c (5 + at_ * 7 + 4)) = (nI (pa s at_)) from hR.xpa hW (by omega) (by omega)) ?_
        refine lv_istore_n (lv' := [(3, .int (nI (pa s at_))), (0, .ref h0), (1, .int (nI y)), (2, .int (nI n_)), (4, .int (nI st_))]) hx hb dX1_pathLength_24 rfl hl (by decide) rfl (fun ls hl => ?_)
        refine lv_iinc (v := (nI (n_ + 1))) (lv' := [(2, .int (nI (n_ + 1))), (3, .int (nI (pa s at_))), (0, .ref h0), (1, .int (nI y)), (4, .int (nI st_))]) hx hb dX1_pathLength_25 hl (k := 3) rfl (nI_add _ _) (by decide) rfl (fun ls hl => ?_)
        refine lv_iinc (v := (nI (st_ + 1))) (lv' := [(4, .int (nI (st_ + 1))), (2, .int (nI (n_ + 1))), (3, .int (nI (pa s at_))), (0, .ref h0), (1, .int (nI y))]) hx hb dX1_pathLength_28 hl (k := 4) rfl (nI_add _ _) (by decide) rfl (fun ls hl => ?_)
        refine lv_goto (tgt := 7) hx hb dX1_pathLength_31 (by decide) ?_
        exact ih7 (pa s at_) (st_ + 1) (n_ + 1) H locs ls (⟨by have hds := dep_s hW (e := at_) (by omega) (by omega); omega, by have hpl := hW.pl (e := at_) (by omega) (by omega); omega⟩) (by have hpl := hW.pl (e := at_) (by omega) (by omega); omega) (hP.sub [0, 1] rfl) hS (lv_sub hl [3, 4, 1, 2, 0] rfl)
  exact loop7 _ y 0 1 H locs ls (⟨by omega, by omega⟩) (Nat.lt_succ_self _) (hP.sub [0, 1] rfl) hS (lv_sub hl [3, 4, 2, 1, 0] rfl)
theorem hdX1_lastShared : yX1_lastShared.cls = RX1 ∧ yX1_lastShared.cls ≠ "java/lang/invoke/MethodHandle" ∧ yX1_lastShared.cls ≠ "java/lang/invoke/VarHandle" ∧ (parseMethodDescriptor yX1_lastShared.desc).map (fun d => d.parameters.length) = some 2 := by decide +kernel
set_option maxHeartbeats 4000000 in
set_option maxRecDepth 100000 in
theorem kX1_lastShared (ln : Launch) (dg : va_G) (tq : ClassId × ClassId) (h0 h1 : Nat) (c : Row) (s : Row) (hR : XR s c) (hW : WF s) (x y : Nat) (hx : x < nE s) (hy : y < nE s) : MR ln yX1_lastShared wsX1_lastShared (rmm 1 22) dg tq [.ref h0, .int (nI x), .int (nI y)] [(h0, .inr (1, [.ref h1])), (h1, .inl (tq.1, 1473, .inl c))] (fun r => r = (nI (meet s x y))) := by
  refine MR.enter cX1_lastShared 6 .int (by decide) rfl rfl (Nat.le_of_ble_eq_true rfl) ?_
  intro pP eE sS mM aA bB mT cC QQ AA hA hAT hret H locs hP hS ls hl
  obtain ⟨hx, hb, hml, hown, hts, hK, hN⟩ := hAT
  have hown : sS.vm.findClass RX1 = some mM.cls := hown
  have hl : lv_has ls 6 [(0, .ref h0), (1, .int (nI x)), (2, .int (nI y))] := hl
  have hn60 := hW.n60
  have hb10 := hW.b10
  have hs8 := hW.s8
  refine lv_iload_n hx hb dX1_lastShared_0 rfl (lv_at hl 1 rfl) ?_
  refine lv_istore_n (lv' := [(3, .int (nI x)), (0, .ref h0), (1, .int (nI x)), (2, .int (nI y))]) hx hb dX1_lastShared_1 rfl hl (by decide) rfl (fun ls hl => ?_)
  refine lv_iload_n hx hb dX1_lastShared_2 rfl (lv_at hl 3 rfl) ?_
  refine lv_istore (lv' := [(4, .int (nI y)), (3, .int (nI x)), (0, .ref h0), (1, .int (nI x)), (2, .int (nI y))]) hx hb dX1_lastShared_3 hl (by decide) rfl (fun ls hl => ?_)
  refine lv_iconst (v := (nI 0)) hx hb dX1_lastShared_5 (by decide) ?_
  refine lv_istore (lv' := [(5, .int (nI 0)), (4, .int (nI y)), (3, .int (nI x)), (0, .ref h0), (1, .int (nI x)), (2, .int (nI y))]) hx hb dX1_lastShared_6 hl (by decide) rfl (fun ls hl => ?_)
  have loop8 : ∀ (fu : Nat) (l_ : Nat) (r_ : Nat) (st_ : Nat) (H : Heap) (locs : List Loc) (ls : Array Slot), (meet s x y = meet s l_ r_ ∧ l_ + r_ + st_ ≤ x + y ∧ l_ < nE s ∧ r_ < nE s) → l_ + r_ < fu → va_P dg vwCl [(h0, .inr (1, [.ref h1])), (h1, .inl (tq.1, 1473, .inl c))] H → va_S AA sS.heap H locs → lv_has ls 6 [(0, .ref h0), (1, .int (nI x)), (2, .int (nI y)), (3, .int (nI l_)), (4, .int (nI r_)), (5, .int (nI st_))] → W pP ln eE (rmm 1 22) sS mM aA bB mT cC H locs 0 0 QQ (F0 mM 8 ls []) := by
    intro fu
    induction fu with
    | zero => intro l_ r_ st_ H locs ls _ hm; exact absurd hm (Nat.not_lt_zero _)
    | succ fu ih8 =>
      intro l_ r_ st_ H locs ls hinv hm hP hS hl
      obtain ⟨hi1, hi2, hi3, hi4⟩ := hinv
      refine lv_iload hx hb dX1_lastShared_8 (lv_at hl 5 rfl) ?_
      refine lv_bipush (v := (nI 120)) hx hb dX1_lastShared_10 (by decide) ?_
      refine r_icmp_ge (tgt := 52) hx hb (nI_tI (by omega)) (nI_tI (by omega)) dX1_lastShared_12 (by decide) (fun c12 => False.elim (by omega)) (fun c12 => ?_)
      refine lv_iload_n hx hb dX1_lastShared_15 rfl (lv_at hl 3 rfl) ?_
      refine lv_iload hx hb dX1_lastShared_16 (lv_at hl 4 rfl) ?_
      refine r_icmp_eq (tgt := 52) hx hb (nI_tI (by omega)) (nI_tI (by omega)) dX1_lastShared_18 (by decide) (fun c18 => ?_) (fun c18 => ?_)
      · skip
        refine lv_iload_n hx hb dX1_lastShared_52 rfl (lv_at hl 3 rfl) ?_
        exact hret (nI l_) H locs _ ls (by have e0 : l_ = r_ := (by omega); subst e0; rw [hi1, meet_t (onP_self s l_)]) rfl hS dX1_lastShared_53
      · skip
        refine lv_iload_n hx hb dX1_lastShared_21 rfl (lv_at hl 3 rfl) ?_
        refine lv_iload hx hb dX1_lastShared_22 (lv_at hl 4 rfl) ?_
        refine r_icmp_le (tgt := 37) hx hb (nI_tI (by omega)) (nI_tI (by omega)) dX1_lastShared_24 (by decide) (fun c24 => ?_) (fun c24 => ?_)
        · skip
          refine lv_aload_n hx hb dX1_lastShared_37 rfl (lv_at hl 0 rfl) ?_
          refine lv_iload hx hb dX1_lastShared_38 (lv_at hl 4 rfl) ?_
          refine lv_iconst (v := (nI 4)) hx hb dX1_lastShared_40 (by decide) ?_
          refine call_x (va_runV (As := [.int (nI r_), .int (nI 4)]) (rest := []) ⟨hx, hb, hml, hown, hts⟩ (kX1_ofEntry ln dg tq (h0 := h0) (h1 := h1) (c := c) (e := r_) (f := 4) (he := (by omega)) (hf := (by omega)) H.size) (cwV 2 hts gX1_lastShared_X1_ofEntry rfl rfl rfl hdX1_ofEntry ⟨Nat.le_of_ble_eq_true rfl, Nat.le_of_ble_eq_true rfl⟩) (preVR hK hN hP [0, 1] rfl 0 rfl rfl [.int (nI r_), .int (nI 4)]) rfl rfl hl.1 rfl (lv_room (Nat.le_of_ble_eq_true rfl)) dX1_lastShared_41 ⟨Nat.le_refl _, Nat.le_refl _⟩) hP hS hA (fun H locs hP hS => ?_)
          refine r_top (show (c (5 + r_ * 7 + 4)) = (nI (pa s r_)) from hR.xpa hW (by omega) (by omega)) ?_
          refine lv_istore (lv' := [(4, .int (nI (pa s r_))), (0, .ref h0), (1, .int (nI x)), (2, .int (nI y)), (3, .int (nI l_)), (5, .int (nI st_))]) hx hb dX1_lastShared_44 hl (by decide) rfl (fun ls hl => ?_)
          refine lv_iinc (v := (nI (st_ + 1))) (lv' := [(5, .int (nI (st_ + 1))), (4, .int (nI (pa s r_))), (0, .ref h0), (1, .int (nI x)), (2, .int (nI y)), (3, .int (nI l_))]) hx hb dX1_lastShared_46 hl (k := 5) rfl (nI_add _ _) (by decide) rfl (fun ls hl => ?_)
          refine lv_goto (tgt := 8) hx hb dX1_lastShared_49 (by decide) ?_
          exact ih8 l_ (pa s r_) (st_ + 1) H locs ls (by first | exact ⟨by rw [hi1]; exact meet_s hW (onP_lt (by omega)) (by omega) (by omega), by have hpl := hW.pl (e := l_) (by omega) (by omega); omega, by have hpl := hW.pl (e := l_) (by omega) (by omega); omega, hi4⟩ | exact ⟨by rw [hi1]; exact meet_r hW (by omega) (by omega) (by omega), by have hpl := hW.pl (e := r_) (by omega) (by omega); omega, hi3, by have hpl := hW.pl (e := r_) (by omega) (by omega); omega⟩) (by first | (have hpl := hW.pl (e := l_) (by omega) (by omega); omega) | (have hpl := hW.pl (e := r_) (by omega) (by omega); omega)) (hP.sub [0, 1] rfl) hS (lv_sub hl [2, 3, 4, 5, 1, 0] rfl)
        · skip
          refine lv_aload_n hx hb dX1_lastShared_27 rfl (lv_at hl 0 rfl) ?_
          refine lv_iload_n hx hb dX1_lastShared_28 rfl (lv_at hl 3 rfl) ?_
          refine lv_iconst (v := (nI 4)) hx hb dX1_lastShared_29 (by decide) ?_
          refine call_x (va_runV (As := [.int (nI l_), .int (nI 4)]) (rest := []) ⟨hx, hb, hml, hown, hts⟩ (kX1_ofEntry ln dg tq (h0 := h0) (h1 := h1) (c := c) (e := l_) (f := 4) (he := (by omega)) (hf := (by omega)) H.size) (cwV 2 hts gX1_lastShared_X1_ofEntry rfl rfl rfl hdX1_ofEntry ⟨Nat.le_of_ble_eq_true rfl, Nat.le_of_ble_eq_true rfl⟩) (preVR hK hN hP [0, 1] rfl 0 rfl rfl [.int (nI l_), .int (nI 4)]) rfl rfl hl.1 rfl (lv_room (Nat.le_of_ble_eq_true rfl)) dX1_lastShared_30 ⟨Nat.le_refl _, Nat.le_refl _⟩) hP hS hA (fun H locs hP hS => ?_)
          refine r_top (show (c (5 + l_ * 7 + 4)) = (nI (pa s l_)) from hR.xpa hW (by omega) (by omega)) ?_
          refine lv_istore_n (lv' := [(3, .int (nI (pa s l_))), (0, .ref h0), (1, .int (nI x)), (2, .int (nI y)), (4, .int (nI r_)), (5, .int (nI st_))]) hx hb dX1_lastShared_33 rfl hl (by decide) rfl (fun ls hl => ?_)
          refine lv_goto (tgt := 46) hx hb dX1_lastShared_34 (by decide) ?_
          refine lv_iinc (v := (nI (st_ + 1))) (lv' := [(5, .int (nI (st_ + 1))), (3, .int (nI (pa s l_))), (0, .ref h0), (1, .int (nI x)), (2, .int (nI y)), (4, .int (nI r_))]) hx hb dX1_lastShared_46 hl (k := 5) rfl (nI_add _ _) (by decide) rfl (fun ls hl => ?_)
          refine lv_goto (tgt := 8) hx hb dX1_lastShared_49 (by decide) ?_
          exact ih8 (pa s l_) r_ (st_ + 1) H locs ls (by first | exact ⟨by rw [hi1]; exact meet_s hW (onP_lt (by omega)) (by omega) (by omega), by have hpl := hW.pl (e := l_) (by omega) (by omega); omega, by have hpl := hW.pl (e := l_) (by omega) (by omega); omega, hi4⟩ | exact ⟨by rw [hi1]; exact meet_r hW (by omega) (by omega) (by omega), by have hpl := hW.pl (e := r_) (by omega) (by omega); omega, hi3, by have hpl := hW.pl (e := r_) (by omega) (by omega); omega⟩) (by first | (have hpl := hW.pl (e := l_) (by omega) (by omega); omega) | (have hpl := hW.pl (e := r_) (by omega) (by omega); omega)) (hP.sub [0, 1] rfl) hS (lv_sub hl [2, 3, 4, 1, 5, 0] rfl)
  exact loop8 _ x y 0 H locs ls (⟨rfl, by omega, by omega, by omega⟩) (Nat.lt_succ_self _) (hP.sub [0, 1] rfl) hS (lv_sub hl [3, 4, 5, 2, 1, 0] rfl)
theorem hdX1_isLeaf : yX1_isLeaf.cls = RX1 ∧ yX1_isLeaf.cls ≠ "java/lang/invoke/MethodHandle" ∧ yX1_isLeaf.cls ≠ "java/lang/invoke/VarHandle" ∧ (parseMethodDescriptor yX1_isLeaf.desc).map (fun d => d.parameters.length) = some 1 := by decide +kernel
set_option maxHeartbeats 4000000 in
set_option maxRecDepth 100000 in
theorem kX1_isLeaf (ln : Launch) (dg : va_G) (tq : ClassId × ClassId) (h0 h1 : Nat) (c : Row) (s : Row) (hR : XR s c) (hW : WF s) (e : Nat) (he : e < nE s) : MR ln yX1_isLeaf wsX1_isLeaf (rmm 1 22) dg tq [.ref h0, .int (nI e)] [(h0, .inr (1, [.ref h1])), (h1, .inl (tq.1, 1473, .inl c))] (fun r => r = (bI (leafB s e))) := by
  refine MR.enter cX1_isLeaf 3 .boolean (by decide) rfl rfl (Nat.le_of_ble_eq_true rfl) ?_
  intro pP eE sS mM aA bB mT cC QQ AA hA hAT hret H locs hP hS ls hl
  obtain ⟨hx, hb, hml, hown, hts, hK, hN⟩ := hAT
  have hown : sS.vm.findClass RX1 = some mM.cls := hown
  have hl : lv_has ls 3 [(0, .ref h0), (1, .int (nI e))] := hl
  have hn60 := hW.n60
  have hb10 := hW.b10
  have hs8 := hW.s8
  refine lv_iload_n hx hb dX1_isLeaf_0 rfl (lv_at hl 1 rfl) ?_
  refine lv_iconst (v := (nI 1)) hx hb dX1_isLeaf_1 (by decide) ?_
  refine r_iadd_n hx hb dX1_isLeaf_2 ?_
  refine lv_istore_n (lv' := [(2, .int (nI (e + 1))), (0, .ref h0), (1, .int (nI e))]) hx hb dX1_isLeaf_3 rfl hl (by decide) rfl (fun ls hl => ?_)
  have loop4 : ∀ (fu : Nat) (k_ : Nat) (H : Heap) (locs : List Loc) (ls : Array Slot), (leafB s e = allF (fun k => !decide (pa s k = e)) k_ (nE s - k_) ∧ e < k_ ∧ k_ ≤ nE s) → nE s - k_ < fu → va_P dg vwCl [(h0, .inr (1, [.ref h1])), (h1, .inl (tq.1, 1473, .inl c))] H → va_S AA sS.heap H locs → lv_has ls 3 [(0, .ref h0), (1, .int (nI e)), (2, .int (nI k_))] → W pP ln eE (rmm 1 22) sS mM aA bB mT cC H locs 0 0 QQ (F0 mM 4 ls []) := by
    intro fu
    induction fu with
    | zero => intro k_ H locs ls _ hm; exact absurd hm (Nat.not_lt_zero _)
    | succ fu ih4 =>
      intro k_ H locs ls hinv hm hP hS hl
      obtain ⟨hi1, hi2, hi3⟩ := hinv
      refine lv_iload_n hx hb dX1_isLeaf_4 rfl (lv_at hl 2 rfl) ?_
      refine lv_aload_n hx hb dX1_isLeaf_5 rfl (lv_at hl 0 rfl) ?_
      refine lv_iconst (v := (nI 0)) hx hb dX1_isLeaf_6 (by decide) ?_
      refine call_x (va_runV (As := [.int (nI 0)]) (rest := [.int (nI k_)]) ⟨hx, hb, hml, hown, hts⟩ (kX1_number ln dg tq (h0 := h0) (h1 := h1) (c := c) (k := 0) (hk := (by omega)) H.size) (cwV 1 hts gX1_isLeaf_X1_number rfl rfl rfl hdX1_number ⟨Nat.le_of_ble_eq_true rfl, Nat.le_of_ble_eq_true rfl⟩) (preVR hK hN hP [0, 1] rfl 0 rfl rfl [.int (nI 0)]) rfl rfl hl.1 rfl (lv_room (Nat.le_of_ble_eq_true rfl)) dX1_isLeaf_7 ⟨Nat.le_refl _, Nat.le_refl _⟩) hP hS hA (fun H locs hP hS => ?_)
      refine r_top (show (c 0) = (nI (nE s)) from (hR.nn hW)) ?_
      refine r_icmp_ge (tgt := 31) hx hb (nI_tI (by omega)) (nI_tI (by omega)) dX1_isLeaf_10 (by decide) (fun c10 => ?_) (fun c10 => ?_)
      · skip
        refine lv_iconst (v := (nI 1)) hx hb dX1_isLeaf_31 (by decide) ?_
        exact hret (nI 1) H locs _ ls (by rw [hi1, show nE s - k_ = 0 by omega]; rfl) rfl hS dX1_isLeaf_32
      · skip
        refine lv_aload_n hx hb dX1_isLeaf_13 rfl (lv_at hl 0 rfl) ?_
        refine lv_iload_n hx hb dX1_isLeaf_14 rfl (lv_at hl 2 rfl) ?_
        refine lv_iconst (v := (nI 4)) hx hb dX1_isLeaf_15 (by decide) ?_
        refine call_x (va_runV (As := [.int (nI k_), .int (nI 4)]) (rest := []) ⟨hx, hb, hml, hown, hts⟩ (kX1_ofEntry ln dg tq (h0 := h0) (h1 := h1) (c := c) (e := k_) (f := 4) (he := (by omega)) (hf := (by omega)) H.size) (cwV 2 hts gX1_isLeaf_X1_ofEntry rfl rfl rfl hdX1_ofEntry ⟨Nat.le_of_ble_eq_true rfl, Nat.le_of_ble_eq_true rfl⟩) (preVR hK hN hP [0, 1] rfl 0 rfl rfl [.int (nI k_), .int (nI 4)]) rfl rfl hl.1 rfl (lv_room (Nat.le_of_ble_eq_true rfl)) dX1_isLeaf_16 ⟨Nat.le_refl _, Nat.le_refl _⟩) hP hS hA (fun H locs hP hS => ?_)
        refine r_top (show (c (5 + k_ * 7 + 4)) = (nI (pa s k_)) from hR.xpa hW (by omega) (by omega)) ?_
        refine lv_iload_n hx hb dX1_isLeaf_19 rfl (lv_at hl 1 rfl) ?_
        have hpl := hW.pl (e := k_) (by omega) (by omega)
        refine r_icmp_ne (tgt := 25) hx hb (nI_tI (by omega)) (nI_tI (by omega)) dX1_isLeaf_20 (by decide) (fun c20 => ?_) (fun c20 => ?_)
        · skip
          refine lv_iinc (v := (nI (k_ + 1))) (lv' := [(2, .int (nI (k_ + 1))), (0, .ref h0), (1, .int (nI e))]) hx hb dX1_isLeaf_25 hl (k := 2) rfl (nI_add _ _) (by decide) rfl (fun ls hl => ?_)
          refine lv_goto (tgt := 4) hx hb dX1_isLeaf_28 (by decide) ?_
          exact ih4 (k_ + 1) H locs ls (⟨by rw [hi1, show nE s - k_ = (nE s - (k_ + 1)) + 1 by omega, allF, show (!decide (pa s k_ = e)) = true by simp; omega, Bool.true_and], by omega, by omega⟩) (by omega) (hP.sub [0, 1] rfl) hS (lv_sub hl [1, 2, 0] rfl)
        · skip
          refine lv_iconst (v := (nI 0)) hx hb dX1_isLeaf_23 (by decide) ?_
          exact hret (nI 0) H locs _ ls (by rw [hi1, show nE s - k_ = (nE s - (k_ + 1)) + 1 by omega, allF, show (!decide (pa s k_ = e)) = false by simp; omega, Bool.false_and]; rfl) rfl hS dX1_isLeaf_24
  exact loop4 _ (e + 1) H locs ls (⟨rfl, by omega, by omega⟩) (Nat.lt_succ_self _) (hP.sub [0, 1] rfl) hS (lv_sub hl [1, 2, 0] rfl)
theorem hdX1_leaves : yX1_leaves.cls = RX1 ∧ yX1_leaves.cls ≠ "java/lang/invoke/MethodHandle" ∧ yX1_leaves.cls ≠ "java/lang/invoke/VarHandle" ∧ (parseMethodDescriptor yX1_leaves.desc).map (fun d => d.parameters.length) = some 0 := by decide +kernel
set_option maxHeartbeats 4000000 in
set_option maxRecDepth 100000 in
theorem kX1_leaves (ln : Launch) (dg : va_G) (tq : ClassId × ClassId) (h0 h1 : Nat) (c : Row) (s : Row) (hR : XR s c) (hW : WF s) : MR ln yX1_leaves wsX1_leaves (rmm 2 44) dg tq [.ref h0] [(h0, .inr (1, [.ref h1])), (h1, .inl (tq.1, 1473, .inl c))] (fun r => r = (nI (cntF (leafB s) (nE s)))) := by
  refine MR.enter cX1_leaves 3 .int (by decide) rfl rfl (Nat.le_of_ble_eq_true rfl) ?_
  intro pP eE sS mM aA bB mT cC QQ AA hA hAT hret H locs hP hS ls hl
  obtain ⟨hx, hb, hml, hown, hts, hK, hN⟩ := hAT
  have hown : sS.vm.findClass RX1 = some mM.cls := hown
  have hl : lv_has ls 3 [(0, .ref h0)] := hl
  have hn60 := hW.n60
  have hb10 := hW.b10
  have hs8 := hW.s8
  refine lv_iconst (v := (nI 0)) hx hb dX1_leaves_0 (by decide) ?_
  refine lv_istore_n (lv' := [(1, .int (nI 0)), (0, .ref h0)]) hx hb dX1_leaves_1 rfl hl (by decide) rfl (fun ls hl => ?_)
  refine lv_iconst (v := (nI 0)) hx hb dX1_leaves_2 (by decide) ?_
  refine lv_istore_n (lv' := [(2, .int (nI 0)), (1, .int (nI 0)), (0, .ref h0)]) hx hb dX1_leaves_3 rfl hl (by decide) rfl (fun ls hl => ?_)
  have loop4 : ∀ (fu : Nat) (k_ : Nat) (i_ : Nat) (H : Heap) (locs : List Loc) (ls : Array Slot), (k_ = cntF (leafB s) i_ ∧ i_ ≤ nE s) → nE s - i_ < fu → va_P dg vwCl [(h0, .inr (1, [.ref h1])), (h1, .inl (tq.1, 1473, .inl c))] H → va_S AA sS.heap H locs → lv_has ls 3 [(0, .ref h0), (1, .int (nI k_)), (2, .int (nI i_))] → W pP ln eE (rmm 2 44) sS mM aA bB mT cC H locs 0 0 QQ (F0 mM 4 ls []) := by
    intro fu
    induction fu with
    | zero => intro k_ i_ H locs ls _ hm; exact absurd hm (Nat.not_lt_zero _)
    | succ fu ih4 =>
      intro k_ i_ H locs ls hinv hm hP hS hl
      obtain ⟨hi1, hi2⟩ := hinv
      refine lv_iload_n hx hb dX1_leaves_4 rfl (lv_at hl 2 rfl) ?_
      refine lv_aload_n hx hb dX1_leaves_5 rfl (lv_at hl 0 rfl) ?_
      refine lv_iconst (v := (nI 0)) hx hb dX1_leaves_6 (by decide) ?_
      refine call_x (va_runV (As := [.int (nI 0)]) (rest := [.int (nI i_)]) ⟨hx, hb, hml, hown, hts⟩ (kX1_number ln dg tq (h0 := h0) (h1 := h1) (c := c) (k := 0) (hk := (by omega)) H.size) (cwV 1 hts gX1_leaves_X1_number rfl rfl rfl hdX1_number ⟨Nat.le_of_ble_eq_true rfl, Nat.le_of_ble_eq_true rfl⟩) (preVR hK hN hP [0, 1] rfl 0 rfl rfl [.int (nI 0)]) rfl rfl hl.1 rfl (lv_room (Nat.le_of_ble_eq_true rfl)) dX1_leaves_7 ⟨Nat.le_refl _, Nat.le_refl _⟩) hP hS hA (fun H locs hP hS => ?_)
      refine r_top (show (c 0) = (nI (nE s)) from (hR.nn hW)) ?_
      refine r_icmp_ge (tgt := 30) hx hb (nI_tI (by omega)) (nI_tI (by omega)) dX1_leaves_10 (by decide) (fun c10 => ?_) (fun c10 => ?_)
      · skip
        refine lv_iload_n hx hb dX1_leaves_30 rfl (lv_at hl 1 rfl) ?_
        exact hret (nI k_) H locs _ ls (by rw [hi1, show i_ = nE s by omega]) rfl hS dX1_leaves_31
      · skip
        refine lv_aload_n hx hb dX1_leaves_13 rfl (lv_at hl 0 rfl) ?_
        refine lv_iload_n hx hb dX1_leaves_14 rfl (lv_at hl 2 rfl) ?_
        refine call_x (va_runV (As := [.int (nI i_)]) (rest := []) ⟨hx, hb, hml, hown, hts⟩ (kX1_isLeaf ln dg tq (h0 := h0) (h1 := h1) (c := c) (s := s) (hR := hR) (hW := hW) (e := i_) (he := (by omega)) H.size) (cwV 1 hts gX1_leaves_X1_isLeaf rfl rfl rfl hdX1_isLeaf ⟨Nat.le_of_ble_eq_true rfl, Nat.le_of_ble_eq_true rfl⟩) (preVR hK hN hP [0, 1] rfl 0 rfl rfl [.int (nI i_)]) rfl rfl hl.1 rfl (lv_room (Nat.le_of_ble_eq_true rfl)) dX1_leaves_15 ⟨Nat.le_refl _, Nat.le_refl _⟩) hP hS hA (fun H locs hP hS => ?_)
        refine r_if_eq_b (tgt := 24) hx hb dX1_leaves_18 (by decide) (fun c18 => ?_) (fun c18 => ?_)
        · skip
          refine lv_iinc (v := (nI (i_ + 1))) (lv' := [(2, .int (nI (i_ + 1))), (0, .ref h0), (1, .int (nI k_))]) hx hb dX1_leaves_24 hl (k := 2) rfl (nI_add _ _) (by decide) rfl (fun ls hl => ?_)
          refine lv_goto (tgt := 4) hx hb dX1_leaves_27 (by decide) ?_
          exact ih4 k_ (i_ + 1) H locs ls (⟨by simp [cntF, c18, hi1], by omega⟩) (by omega) (hP.sub [0, 1] rfl) hS (lv_sub hl [1, 2, 0] rfl)
        · skip
          refine lv_iinc (v := (nI (k_ + 1))) (lv' := [(1, .int (nI (k_ + 1))), (0, .ref h0), (2, .int (nI i_))]) hx hb dX1_leaves_21 hl (k := 1) rfl (nI_add _ _) (by decide) rfl (fun ls hl => ?_)
          refine lv_iinc (v := (nI (i_ + 1))) (lv' := [(2, .int (nI (i_ + 1))), (1, .int (nI (k_ + 1))), (0, .ref h0)]) hx hb dX1_leaves_24 hl (k := 2) rfl (nI_add _ _) (by decide) rfl (fun ls hl => ?_)
          refine lv_goto (tgt := 4) hx hb dX1_leaves_27 (by decide) ?_
          exact ih4 (k_ + 1) (i_ + 1) H locs ls (⟨by simp [cntF, c18, hi1], by omega⟩) (by omega) (hP.sub [0, 1] rfl) hS (lv_sub hl [2, 1, 0] rfl)
  exact loop4 _ 0 0 H locs ls (⟨rfl, by omega⟩) (Nat.lt_succ_self _) (hP.sub [0, 1] rfl) hS (lv_sub hl [2, 1, 0] rfl)
theorem hdX1_fittingLink : yX1_fittingLink.cls = RX1 ∧ yX1_fittingLink.cls ≠ "java/lang/invoke/MethodHandle" ∧ yX1_fittingLink.cls ≠ "java/lang/invoke/VarHandle" ∧ (parseMethodDescriptor yX1_fittingLink.desc).map (fun d => d.parameters.length) = some 1 := by decide +kernel
set_option maxHeartbeats 4000000 in
set_option maxRecDepth 100000 in
theorem kX1_fittingLink (ln : Launch) (dg : va_G) (tq : ClassId × ClassId) (h0 h1 : Nat) (c : Row) (e p : Nat) (he : e < 60) (hp : 0 < e → c (5 + e * 7 + 4) = nI p) (hp2 : 0 < e → p < 60) : MR ln yX1_fittingLink wsX1_fittingLink (rmm 1 22) dg tq [.ref h0, .int (nI e)] [(h0, .inr (1, [.ref h1])), (h1, .inl (tq.1, 1473, .inl c))] (fun r => r = (xfit c e p)) := by
  refine MR.enter cX1_fittingLink 3 .int (by decide) rfl rfl (Nat.le_of_ble_eq_true rfl) ?_
  intro pP eE sS mM aA bB mT cC QQ AA hA hAT hret H locs hP hS ls hl
  obtain ⟨hx, hb, hml, hown, hts, hK, hN⟩ := hAT
  have hown : sS.vm.findClass RX1 = some mM.cls := hown
  have hl : lv_has ls 3 [(0, .ref h0), (1, .int (nI e))] := hl
  refine lv_iload_n hx hb dX1_fittingLink_0 rfl (lv_at hl 1 rfl) ?_
  refine r_if_ne (tgt := 6) hx hb (nI_tI (by omega)) dX1_fittingLink_1 (by decide) (fun c1 => ?_) (fun c1 => ?_)
  · skip
    have hp3 := hp2 (by omega)
    refine lv_bipush (v := (nI 31)) hx hb dX1_fittingLink_6 (by decide) ?_
    refine lv_aload_n hx hb dX1_fittingLink_8 rfl (lv_at hl 0 rfl) ?_
    refine lv_aload_n hx hb dX1_fittingLink_9 rfl (lv_at hl 0 rfl) ?_
    refine lv_iload_n hx hb dX1_fittingLink_10 rfl (lv_at hl 1 rfl) ?_
    refine lv_iconst (v := (nI 4)) hx hb dX1_fittingLink_11 (by decide) ?_
    refine call_x (va_runV (As := [.int (nI e), .int (nI 4)]) (rest := [.ref h0, .int (nI 31)]) ⟨hx, hb, hml, hown, hts⟩ (kX1_ofEntry ln dg tq (h0 := h0) (h1 := h1) (c := c) (e := e) (f := 4) (he := (by omega)) (hf := (by omega)) H.size) (cwV 2 hts gX1_fittingLink_X1_ofEntry rfl rfl rfl hdX1_ofEntry ⟨Nat.le_of_ble_eq_true rfl, Nat.le_of_ble_eq_true rfl⟩) (preVR hK hN hP [0, 1] rfl 0 rfl rfl [.int (nI e), .int (nI 4)]) rfl rfl hl.1 rfl (lv_room (Nat.le_of_ble_eq_true rfl)) dX1_fittingLink_12 ⟨Nat.le_refl _, Nat.le_refl _⟩) hP hS hA (fun H locs hP hS => ?_)
    refine r_top (show (c (5 + e * 7 + 4)) = (nI p) from hp (by omega)) ?_
    refine lv_iconst (v := (nI 5)) hx hb dX1_fittingLink_15 (by decide) ?_
    refine call_x (va_runV (As := [.int (nI p), .int (nI 5)]) (rest := [.int (nI 31)]) ⟨hx, hb, hml, hown, hts⟩ (kX1_ofEntry ln dg tq (h0 := h0) (h1 := h1) (c := c) (e := p) (f := 5) (he := (by omega)) (hf := (by omega)) H.size) (cwV 2 hts gX1_fittingLink_X1_ofEntry rfl rfl rfl hdX1_ofEntry ⟨Nat.le_of_ble_eq_true rfl, Nat.le_of_ble_eq_true rfl⟩) (preVR hK hN hP [0, 1] rfl 0 rfl rfl [.int (nI p), .int (nI 5)]) rfl rfl hl.1 rfl (lv_room (Nat.le_of_ble_eq_true rfl)) dX1_fittingLink_16 ⟨Nat.le_refl _, Nat.le_refl _⟩) hP hS hA (fun H locs hP hS => ?_)
    refine lv_imul hx hb dX1_fittingLink_19 ?_
    refine lv_bipush (v := (nI 7)) hx hb dX1_fittingLink_20 (by decide) ?_
    refine lv_aload_n hx hb dX1_fittingLink_22 rfl (lv_at hl 0 rfl) ?_
    refine lv_iload_n hx hb dX1_fittingLink_23 rfl (lv_at hl 1 rfl) ?_
    refine lv_iconst (v := (nI 0)) hx hb dX1_fittingLink_24 (by decide) ?_
    refine call_x (va_runV (As := [.int (nI e), .int (nI 0)]) (rest := [.int (nI 7), .int ((nI 31) * (c (5 + p * 7 + 5)))]) ⟨hx, hb, hml, hown, hts⟩ (kX1_ofEntry ln dg tq (h0 := h0) (h1 := h1) (c := c) (e := e) (f := 0) (he := (by omega)) (hf := (by omega)) H.size) (cwV 2 hts gX1_fittingLink_X1_ofEntry rfl rfl rfl hdX1_ofEntry ⟨Nat.le_of_ble_eq_true rfl, Nat.le_of_ble_eq_true rfl⟩) (preVR hK hN hP [0, 1] rfl 0 rfl rfl [.int (nI e), .int (nI 0)]) rfl rfl hl.1 rfl (lv_room (Nat.le_of_ble_eq_true rfl)) dX1_fittingLink_25 ⟨Nat.le_refl _, Nat.le_refl _⟩) hP hS hA (fun H locs hP hS => ?_)
    refine lv_imul hx hb dX1_fittingLink_28 ?_
    refine lv_iadd hx hb dX1_fittingLink_29 ?_
    refine lv_bipush (v := (nI 11)) hx hb dX1_fittingLink_30 (by decide) ?_
    refine lv_aload_n hx hb dX1_fittingLink_32 rfl (lv_at hl 0 rfl) ?_
    refine lv_iload_n hx hb dX1_fittingLink_33 rfl (lv_at hl 1 rfl) ?_
    refine lv_iconst (v := (nI 1)) hx hb dX1_fittingLink_34 (by decide) ?_
    refine call_x (va_runV (As := [.int (nI e), .int (nI 1)]) (rest := [.int (nI 11), .int (((nI 31) * (c (5 + p * 7 + 5))) + ((nI 7) * (c (5 + e * 7 + 0))))]) ⟨hx, hb, hml, hown, hts⟩ (kX1_ofEntry ln dg tq (h0 := h0) (h1 := h1) (c := c) (e := e) (f := 1) (he := (by omega)) (hf := (by omega)) H.size) (cwV 2 hts gX1_fittingLink_X1_ofEntry rfl rfl rfl hdX1_ofEntry ⟨Nat.le_of_ble_eq_true rfl, Nat.le_of_ble_eq_true rfl⟩) (preVR hK hN hP [0, 1] rfl 0 rfl rfl [.int (nI e), .int (nI 1)]) rfl rfl hl.1 rfl (lv_room (Nat.le_of_ble_eq_true rfl)) dX1_fittingLink_35 ⟨Nat.le_refl _, Nat.le_refl _⟩) hP hS hA (fun H locs hP hS => ?_)
    refine lv_imul hx hb dX1_fittingLink_38 ?_
    refine lv_iadd hx hb dX1_fittingLink_39 ?_
    refine lv_bipush (v := (nI 13)) hx hb dX1_fittingLink_40 (by decide) ?_
    refine lv_aload_n hx hb dX1_fittingLink_42 rfl (lv_at hl 0 rfl) ?_
    refine lv_iload_n hx hb dX1_fittingLink_43 rfl (lv_at hl 1 rfl) ?_
    refine lv_iconst (v := (nI 2)) hx hb dX1_fittingLink_44 (by decide) ?_
    refine call_x (va_runV (As := [.int (nI e), .int (nI 2)]) (rest := [.int (nI 13), .int ((((nI 31) * (c (5 + p * 7 + 5))) + ((nI 7) * (c (5 + e * 7 + 0)))) + ((nI 11) * (c (5 + e * 7 + 1))))]) ⟨hx, hb, hml, hown, hts⟩ (kX1_ofEntry ln dg tq (h0 := h0) (h1 := h1) (c := c) (e := e) (f := 2) (he := (by omega)) (hf := (by omega)) H.size) (cwV 2 hts gX1_fittingLink_X1_ofEntry rfl rfl rfl hdX1_ofEntry ⟨Nat.le_of_ble_eq_true rfl, Nat.le_of_ble_eq_true rfl⟩) (preVR hK hN hP [0, 1] rfl 0 rfl rfl [.int (nI e), .int (nI 2)]) rfl rfl hl.1 rfl (lv_room (Nat.le_of_ble_eq_true rfl)) dX1_fittingLink_45 ⟨Nat.le_refl _, Nat.le_refl _⟩) hP hS hA (fun H locs hP hS => ?_)
    refine lv_imul hx hb dX1_fittingLink_48 ?_
    refine lv_iadd hx hb dX1_fittingLink_49 ?_
    refine lv_bipush (v := (nI 17)) hx hb dX1_fittingLink_50 (by decide) ?_
    refine lv_aload_n hx hb dX1_fittingLink_52 rfl (lv_at hl 0 rfl) ?_
    refine lv_iload_n hx hb dX1_fittingLink_53 rfl (lv_at hl 1 rfl) ?_
    refine lv_iconst (v := (nI 3)) hx hb dX1_fittingLink_54 (by decide) ?_
    refine call_x (va_runV (As := [.int (nI e), .int (nI 3)]) (rest := [.int (nI 17), .int (((((nI 31) * (c (5 + p * 7 + 5))) + ((nI 7) * (c (5 + e * 7 + 0)))) + ((nI 11) * (c (5 + e * 7 + 1)))) + ((nI 13) * (c (5 + e * 7 + 2))))]) ⟨hx, hb, hml, hown, hts⟩ (kX1_ofEntry ln dg tq (h0 := h0) (h1 := h1) (c := c) (e := e) (f := 3) (he := (by omega)) (hf := (by omega)) H.size) (cwV 2 hts gX1_fittingLink_X1_ofEntry rfl rfl rfl hdX1_ofEntry ⟨Nat.le_of_ble_eq_true rfl, Nat.le_of_ble_eq_true rfl⟩) (preVR hK hN hP [0, 1] rfl 0 rfl rfl [.int (nI e), .int (nI 3)]) rfl rfl hl.1 rfl (lv_room (Nat.le_of_ble_eq_true rfl)) dX1_fittingLink_55 ⟨Nat.le_refl _, Nat.le_refl _⟩) hP hS hA (fun H locs hP hS => ?_)
    refine lv_imul hx hb dX1_fittingLink_58 ?_
    refine lv_iadd hx hb dX1_fittingLink_59 ?_
    refine lv_bipush (v := (nI 19)) hx hb dX1_fittingLink_60 (by decide) ?_
    refine lv_iload_n hx hb dX1_fittingLink_62 rfl (lv_at hl 1 rfl) ?_
    refine r_imul_n hx hb dX1_fittingLink_63 ?_
    refine lv_iadd hx hb dX1_fittingLink_64 ?_
    refine lv_istore_n (lv' := [(2, .int (((((((nI 31) * (c (5 + p * 7 + 5))) + ((nI 7) * (c (5 + e * 7 + 0)))) + ((nI 11) * (c (5 + e * 7 + 1)))) + ((nI 13) * (c (5 + e * 7 + 2)))) + ((nI 17) * (c (5 + e * 7 + 3)))) + (nI (19 * e)))), (0, .ref h0), (1, .int (nI e))]) hx hb dX1_fittingLink_65 rfl hl (by decide) rfl (fun ls hl => ?_)
    refine lv_iload_n hx hb dX1_fittingLink_66 rfl (lv_at hl 0 rfl) ?_
    refine lv_sipush (v := (nI 9973)) hx hb dX1_fittingLink_67 (by decide) ?_
    refine lv_irem hx hb dX1_fittingLink_70 (by decide) ?_
    exact hret ((((((((nI 31) * (c (5 + p * 7 + 5))) + ((nI 7) * (c (5 + e * 7 + 0)))) + ((nI 11) * (c (5 + e * 7 + 1)))) + ((nI 13) * (c (5 + e * 7 + 2)))) + ((nI 17) * (c (5 + e * 7 + 3)))) + (nI (19 * e))) - (((((((nI 31) * (c (5 + p * 7 + 5))) + ((nI 7) * (c (5 + e * 7 + 0)))) + ((nI 11) * (c (5 + e * 7 + 1)))) + ((nI 13) * (c (5 + e * 7 + 2)))) + ((nI 17) * (c (5 + e * 7 + 3)))) + (nI (19 * e))) / (nI 9973) * (nI 9973)) H locs _ ls (by rw [xfit, if_neg (by omega)]; rfl) rfl hS dX1_fittingLink_71
  · skip
    refine lv_iconst (v := (nI 1)) hx hb dX1_fittingLink_4 (by decide) ?_
    exact hret (nI 1) H locs _ ls (by rw [xfit, if_pos (by omega)]; rfl) rfl hS dX1_fittingLink_5
theorem hdX1_fits : yX1_fits.cls = RX1 ∧ yX1_fits.cls ≠ "java/lang/invoke/MethodHandle" ∧ yX1_fits.cls ≠ "java/lang/invoke/VarHandle" ∧ (parseMethodDescriptor yX1_fits.desc).map (fun d => d.parameters.length) = some 1 := by decide +kernel
set_option maxHeartbeats 4000000 in
set_option maxRecDepth 100000 in
theorem kX1_fits (ln : Launch) (dg : va_G) (tq : ClassId × ClassId) (h0 h1 : Nat) (c : Row) (s : Row) (hR : XR s c) (hW : WF s) (e : Nat) (he : e < nE s) : MR ln yX1_fits wsX1_fits (rmm 2 44) dg tq [.ref h0, .int (nI e)] [(h0, .inr (1, [.ref h1])), (h1, .inl (tq.1, 1473, .inl c))] (fun r => r = (bI (fitE s e))) := by
  refine MR.enter cX1_fits 2 .boolean (by decide) rfl rfl (Nat.le_of_ble_eq_true rfl) ?_
  intro pP eE sS mM aA bB mT cC QQ AA hA hAT hret H locs hP hS ls hl
  obtain ⟨hx, hb, hml, hown, hts, hK, hN⟩ := hAT
  have hown : sS.vm.findClass RX1 = some mM.cls := hown
  have hl : lv_has ls 2 [(0, .ref h0), (1, .int (nI e))] := hl
  have hn60 := hW.n60
  have hb10 := hW.b10
  have hs8 := hW.s8
  refine lv_aload_n hx hb dX1_fits_0 rfl (lv_at hl 0 rfl) ?_
  refine lv_iload_n hx hb dX1_fits_1 rfl (lv_at hl 1 rfl) ?_
  refine lv_iconst (v := (nI 5)) hx hb dX1_fits_2 (by decide) ?_
  refine call_x (va_runV (As := [.int (nI e), .int (nI 5)]) (rest := []) ⟨hx, hb, hml, hown, hts⟩ (kX1_ofEntry ln dg tq (h0 := h0) (h1 := h1) (c := c) (e := e) (f := 5) (he := (by omega)) (hf := (by omega)) H.size) (cwV 2 hts gX1_fits_X1_ofEntry rfl rfl rfl hdX1_ofEntry ⟨Nat.le_of_ble_eq_true rfl, Nat.le_of_ble_eq_true rfl⟩) (preVR hK hN hP [0, 1] rfl 0 rfl rfl [.int (nI e), .int (nI 5)]) rfl rfl hl.1 rfl (lv_room (Nat.le_of_ble_eq_true rfl)) dX1_fits_3 ⟨Nat.le_refl _, Nat.le_refl _⟩) hP hS hA (fun H locs hP hS => ?_)
  refine r_top (show (c (5 + e * 7 + 5)) = (me s e 5) from hR.l (by omega)) ?_
  refine lv_aload_n hx hb dX1_fits_6 rfl (lv_at hl 0 rfl) ?_
  refine lv_iload_n hx hb dX1_fits_7 rfl (lv_at hl 1 rfl) ?_
  refine call_x (va_runV (As := [.int (nI e)]) (rest := [.int (me s e 5)]) ⟨hx, hb, hml, hown, hts⟩ (kX1_fittingLink ln dg tq (h0 := h0) (h1 := h1) (c := c) (e := e) (p := pa s e) (he := (by omega)) (hp := (fun h0 => hR.xpa hW h0 (by omega))) (hp2 := (fun h0 => by have hpl := hW.pl h0 (by omega); omega)) H.size) (cwV 1 hts gX1_fits_X1_fittingLink rfl rfl rfl hdX1_fittingLink ⟨Nat.le_of_ble_eq_true rfl, Nat.le_of_ble_eq_true rfl⟩) (preVR hK hN hP [0, 1] rfl 0 rfl rfl [.int (nI e)]) rfl rfl hl.1 rfl (lv_room (Nat.le_of_ble_eq_true rfl)) dX1_fits_8 ⟨Nat.le_refl _, Nat.le_refl _⟩) hP hS hA (fun H locs hP hS => ?_)
  refine r_top (show (xfit c e (pa s e)) = (fit s e) from hR.Fit hW he) ?_
  refine lv_icmp_ne (tgt := 18) hx hb dX1_fits_11 (by decide) (fun c11 => ?_) (fun c11 => ?_)
  · skip
    refine lv_iconst (v := (nI 0)) hx hb dX1_fits_18 (by decide) ?_
    exact hret (nI 0) H locs _ ls (by unfold fitE; first | exact (bI_pos (by assumption)).symm | exact (bI_neg (by assumption)).symm) rfl hS dX1_fits_19
  · skip
    refine lv_iconst (v := (nI 1)) hx hb dX1_fits_14 (by decide) ?_
    refine lv_goto (tgt := 19) hx hb dX1_fits_15 (by decide) ?_
    exact hret (nI 1) H locs _ ls (by unfold fitE; first | exact (bI_pos (by assumption)).symm | exact (bI_neg (by assumption)).symm) rfl hS dX1_fits_19
theorem hdX1_brokenLinks : yX1_brokenLinks.cls = RX1 ∧ yX1_brokenLinks.cls ≠ "java/lang/invoke/MethodHandle" ∧ yX1_brokenLinks.cls ≠ "java/lang/invoke/VarHandle" ∧ (parseMethodDescriptor yX1_brokenLinks.desc).map (fun d => d.parameters.length) = some 0 := by decide +kernel
set_option maxHeartbeats 4000000 in
set_option maxRecDepth 100000 in
theorem kX1_brokenLinks (ln : Launch) (dg : va_G) (tq : ClassId × ClassId) (h0 h1 : Nat) (c : Row) (s : Row) (hR : XR s c) (hW : WF s) : MR ln yX1_brokenLinks wsX1_brokenLinks (rmm 3 65) dg tq [.ref h0] [(h0, .inr (1, [.ref h1])), (h1, .inl (tq.1, 1473, .inl c))] (fun r => r = (nI (cntF (fun e => !fitE s e) (nE s)))) := by
  refine MR.enter cX1_brokenLinks 3 .int (by decide) rfl rfl (Nat.le_of_ble_eq_true rfl) ?_
  intro pP eE sS mM aA bB mT cC QQ AA hA hAT hret H locs hP hS ls hl
  obtain ⟨hx, hb, hml, hown, hts, hK, hN⟩ := hAT
  have hown : sS.vm.findClass RX1 = some mM.cls := hown
  have hl : lv_has ls 3 [(0, .ref h0)] := hl
  have hn60 := hW.n60
  have hb10 := hW.b10
  have hs8 := hW.s8
  refine lv_iconst (v := (nI 0)) hx hb dX1_brokenLinks_0 (by decide) ?_
  refine lv_istore_n (lv' := [(1, .int (nI 0)), (0, .ref h0)]) hx hb dX1_brokenLinks_1 rfl hl (by decide) rfl (fun ls hl => ?_)
  refine lv_iconst (v := (nI 0)) hx hb dX1_brokenLinks_2 (by decide) ?_
  refine lv_istore_n (lv' := [(2, .int (nI 0)), (1, .int (nI 0)), (0, .ref h0)]) hx hb dX1_brokenLinks_3 rfl hl (by decide) rfl (fun ls hl => ?_)
  have loop4 : ∀ (fu : Nat) (k_ : Nat) (i_ : Nat) (H : Heap) (locs : List Loc) (ls : Array Slot), (k_ = cntF (fun e => !fitE s e) i_ ∧ i_ ≤ nE s) → nE s - i_ < fu → va_P dg vwCl [(h0, .inr (1, [.ref h1])), (h1, .inl (tq.1, 1473, .inl c))] H → va_S AA sS.heap H locs → lv_has ls 3 [(0, .ref h0), (1, .int (nI k_)), (2, .int (nI i_))] → W pP ln eE (rmm 3 65) sS mM aA bB mT cC H locs 0 0 QQ (F0 mM 4 ls []) := by
    intro fu
    induction fu with
    | zero => intro k_ i_ H locs ls _ hm; exact absurd hm (Nat.not_lt_zero _)
    | succ fu ih4 =>
      intro k_ i_ H locs ls hinv hm hP hS hl
      obtain ⟨hi1, hi2⟩ := hinv
      refine lv_iload_n hx hb dX1_brokenLinks_4 rfl (lv_at hl 2 rfl) ?_
      refine lv_aload_n hx hb dX1_brokenLinks_5 rfl (lv_at hl 0 rfl) ?_
      refine lv_iconst (v := (nI 0)) hx hb dX1_brokenLinks_6 (by decide) ?_
      refine call_x (va_runV (As := [.int (nI 0)]) (rest := [.int (nI i_)]) ⟨hx, hb, hml, hown, hts⟩ (kX1_number ln dg tq (h0 := h0) (h1 := h1) (c := c) (k := 0) (hk := (by omega)) H.size) (cwV 1 hts gX1_brokenLinks_X1_number rfl rfl rfl hdX1_number ⟨Nat.le_of_ble_eq_true rfl, Nat.le_of_ble_eq_true rfl⟩) (preVR hK hN hP [0, 1] rfl 0 rfl rfl [.int (nI 0)]) rfl rfl hl.1 rfl (lv_room (Nat.le_of_ble_eq_true rfl)) dX1_brokenLinks_7 ⟨Nat.le_refl _, Nat.le_refl _⟩) hP hS hA (fun H locs hP hS => ?_)
      refine r_top (show (c 0) = (nI (nE s)) from (hR.nn hW)) ?_
      refine r_icmp_ge (tgt := 30) hx hb (nI_tI (by omega)) (nI_tI (by omega)) dX1_brokenLinks_10 (by decide) (fun c10 => ?_) (fun c10 => ?_)
      · skip
        refine lv_iload_n hx hb dX1_brokenLinks_30 rfl (lv_at hl 1 rfl) ?_
        exact hret (nI k_) H locs _ ls (by rw [hi1, show i_ = nE s by omega]) rfl hS dX1_brokenLinks_31
      · skip
        refine lv_aload_n hx hb dX1_brokenLinks_13 rfl (lv_at hl 0 rfl) ?_
        refine lv_iload_n hx hb dX1_brokenLinks_14 rfl (lv_at hl 2 rfl) ?_
        refine call_x (va_runV (As := [.int (nI i_)]) (rest := []) ⟨hx, hb, hml, hown, hts⟩ (kX1_fits ln dg tq (h0 := h0) (h1 := h1) (c := c) (s := s) (hR := hR) (hW := hW) (e := i_) (he := (by omega)) H.size) (cwV 1 hts gX1_brokenLinks_X1_fits rfl rfl rfl hdX1_fits ⟨Nat.le_of_ble_eq_true rfl, Nat.le_of_ble_eq_true rfl⟩) (preVR hK hN hP [0, 1] rfl 0 rfl rfl [.int (nI i_)]) rfl rfl hl.1 rfl (lv_room (Nat.le_of_ble_eq_true rfl)) dX1_brokenLinks_15 ⟨Nat.le_refl _, Nat.le_refl _⟩) hP hS hA (fun H locs hP hS => ?_)
        refine r_if_ne_b (tgt := 24) hx hb dX1_brokenLinks_18 (by decide) (fun c18 => ?_) (fun c18 => ?_)
        · skip
          refine lv_iinc (v := (nI (i_ + 1))) (lv' := [(2, .int (nI (i_ + 1))), (0, .ref h0), (1, .int (nI k_))]) hx hb dX1_brokenLinks_24 hl (k := 2) rfl (nI_add _ _) (by decide) rfl (fun ls hl => ?_)
          refine lv_goto (tgt := 4) hx hb dX1_brokenLinks_27 (by decide) ?_
          exact ih4 k_ (i_ + 1) H locs ls (⟨by simp [cntF, c18, hi1], by omega⟩) (by omega) (hP.sub [0, 1] rfl) hS (lv_sub hl [1, 2, 0] rfl)
        · skip
          refine lv_iinc (v := (nI (k_ + 1))) (lv' := [(1, .int (nI (k_ + 1))), (0, .ref h0), (2, .int (nI i_))]) hx hb dX1_brokenLinks_21 hl (k := 1) rfl (nI_add _ _) (by decide) rfl (fun ls hl => ?_)
          refine lv_iinc (v := (nI (i_ + 1))) (lv' := [(2, .int (nI (i_ + 1))), (1, .int (nI (k_ + 1))), (0, .ref h0)]) hx hb dX1_brokenLinks_24 hl (k := 2) rfl (nI_add _ _) (by decide) rfl (fun ls hl => ?_)
          refine lv_goto (tgt := 4) hx hb dX1_brokenLinks_27 (by decide) ?_
          exact ih4 (k_ + 1) (i_ + 1) H locs ls (⟨by simp [cntF, c18, hi1], by omega⟩) (by omega) (hP.sub [0, 1] rfl) hS (lv_sub hl [2, 1, 0] rfl)
  exact loop4 _ 0 0 H locs ls (⟨rfl, by omega⟩) (Nat.lt_succ_self _) (hP.sub [0, 1] rfl) hS (lv_sub hl [2, 1, 0] rfl)
theorem hdX1_firstBrokenLink : yX1_firstBrokenLink.cls = RX1 ∧ yX1_firstBrokenLink.cls ≠ "java/lang/invoke/MethodHandle" ∧ yX1_firstBrokenLink.cls ≠ "java/lang/invoke/VarHandle" ∧ (parseMethodDescriptor yX1_firstBrokenLink.desc).map (fun d => d.parameters.length) = some 0 := by decide +kernel
set_option maxHeartbeats 4000000 in
set_option maxRecDepth 100000 in
theorem kX1_firstBrokenLink (ln : Launch) (dg : va_G) (tq : ClassId × ClassId) (h0 h1 : Nat) (c : Row) (s : Row) (hR : XR s c) (hW : WF s) : MR ln yX1_firstBrokenLink wsX1_firstBrokenLink (rmm 3 65) dg tq [.ref h0] [(h0, .inr (1, [.ref h1])), (h1, .inl (tq.1, 1473, .inl c))] (fun r => r = (fstF (fun e => !fitE s e) 0 (nE s))) := by
  refine MR.enter cX1_firstBrokenLink 2 .int (by decide) rfl rfl (Nat.le_of_ble_eq_true rfl) ?_
  intro pP eE sS mM aA bB mT cC QQ AA hA hAT hret H locs hP hS ls hl
  obtain ⟨hx, hb, hml, hown, hts, hK, hN⟩ := hAT
  have hown : sS.vm.findClass RX1 = some mM.cls := hown
  have hl : lv_has ls 2 [(0, .ref h0)] := hl
  have k19 := hts (.constant RX1 19 (-100009)) (List.mem_of_getElem? (i := 1) rfl)
  have hn60 := hW.n60
  have hb10 := hW.b10
  have hs8 := hW.s8
  refine lv_iconst (v := (nI 0)) hx hb dX1_firstBrokenLink_0 (by decide) ?_
  refine lv_istore_n (lv' := [(1, .int (nI 0)), (0, .ref h0)]) hx hb dX1_firstBrokenLink_1 rfl hl (by decide) rfl (fun ls hl => ?_)
  have loop2 : ∀ (fu : Nat) (i_ : Nat) (H : Heap) (locs : List Loc) (ls : Array Slot), (fstF (fun e => !fitE s e) 0 (nE s) = fstF (fun e => !fitE s e) i_ (nE s - i_) ∧ i_ ≤ nE s) → nE s - i_ < fu → va_P dg vwCl [(h0, .inr (1, [.ref h1])), (h1, .inl (tq.1, 1473, .inl c))] H → va_S AA sS.heap H locs → lv_has ls 2 [(0, .ref h0), (1, .int (nI i_))] → W pP ln eE (rmm 3 65) sS mM aA bB mT cC H locs 0 0 QQ (F0 mM 2 ls []) := by
    intro fu
    induction fu with
    | zero => intro i_ H locs ls _ hm; exact absurd hm (Nat.not_lt_zero _)
    | succ fu ih2 =>
      intro i_ H locs ls hinv hm hP hS hl
      obtain ⟨hi1, hi2⟩ := hinv
      refine lv_iload_n hx hb dX1_firstBrokenLink_2 rfl (lv_at hl 1 rfl) ?_
      refine lv_aload_n hx hb dX1_firstBrokenLink_3 rfl (lv_at hl 0 rfl) ?_
      refine lv_iconst (v := (nI 0)) hx hb dX1_firstBrokenLink_4 (by decide) ?_
      refine call_x (va_runV (As := [.int (nI 0)]) (rest := [.int (nI i_)]) ⟨hx, hb, hml, hown, hts⟩ (kX1_number ln dg tq (h0 := h0) (h1 := h1) (c := c) (k := 0) (hk := (by omega)) H.size) (cwV 1 hts gX1_firstBrokenLink_X1_number rfl rfl rfl hdX1_number ⟨Nat.le_of_ble_eq_true rfl, Nat.le_of_ble_eq_true rfl⟩) (preVR hK hN hP [0, 1] rfl 0 rfl rfl [.int (nI 0)]) rfl rfl hl.1 rfl (lv_room (Nat.le_of_ble_eq_true rfl)) dX1_firstBrokenLink_5 ⟨Nat.le_refl _, Nat.le_refl _⟩) hP hS hA (fun H locs hP hS => ?_)
      refine r_top (show (c 0) = (nI (nE s)) from (hR.nn hW)) ?_
      refine r_icmp_ge (tgt := 27) hx hb (nI_tI (by omega)) (nI_tI (by omega)) dX1_firstBrokenLink_8 (by decide) (fun c8 => ?_) (fun c8 => ?_)
      · skip
        refine lv_ldc hx hb hown k19 dX1_firstBrokenLink_27 ?_
        exact hret (-100009) H locs _ ls (by rw [hi1, show nE s - i_ = 0 by omega]; rfl) rfl hS dX1_firstBrokenLink_29
      · skip
        refine lv_aload_n hx hb dX1_firstBrokenLink_11 rfl (lv_at hl 0 rfl) ?_
        refine lv_iload_n hx hb dX1_firstBrokenLink_12 rfl (lv_at hl 1 rfl) ?_
        refine call_x (va_runV (As := [.int (nI i_)]) (rest := []) ⟨hx, hb, hml, hown, hts⟩ (kX1_fits ln dg tq (h0 := h0) (h1 := h1) (c := c) (s := s) (hR := hR) (hW := hW) (e := i_) (he := (by omega)) H.size) (cwV 1 hts gX1_firstBrokenLink_X1_fits rfl rfl rfl hdX1_fits ⟨Nat.le_of_ble_eq_true rfl, Nat.le_of_ble_eq_true rfl⟩) (preVR hK hN hP [0, 1] rfl 0 rfl rfl [.int (nI i_)]) rfl rfl hl.1 rfl (lv_room (Nat.le_of_ble_eq_true rfl)) dX1_firstBrokenLink_13 ⟨Nat.le_refl _, Nat.le_refl _⟩) hP hS hA (fun H locs hP hS => ?_)
        refine r_if_ne_b (tgt := 21) hx hb dX1_firstBrokenLink_16 (by decide) (fun c16 => ?_) (fun c16 => ?_)
        · skip
          refine lv_iinc (v := (nI (i_ + 1))) (lv' := [(1, .int (nI (i_ + 1))), (0, .ref h0)]) hx hb dX1_firstBrokenLink_21 hl (k := 1) rfl (nI_add _ _) (by decide) rfl (fun ls hl => ?_)
          refine lv_goto (tgt := 2) hx hb dX1_firstBrokenLink_24 (by decide) ?_
          exact ih2 (i_ + 1) H locs ls (⟨by rw [hi1, show nE s - i_ = (nE s - (i_ + 1)) + 1 by omega, fstF]; simp [c16], by omega⟩) (by omega) (hP.sub [0, 1] rfl) hS (lv_sub hl [1, 0] rfl)
        · skip
          refine lv_iload_n hx hb dX1_firstBrokenLink_19 rfl (lv_at hl 1 rfl) ?_
          exact hret (nI i_) H locs _ ls (by rw [hi1, show nE s - i_ = (nE s - (i_ + 1)) + 1 by omega, fstF]; simp [c16]) rfl hS dX1_firstBrokenLink_20
  exact loop2 _ 0 H locs ls (⟨rfl, by omega⟩) (Nat.lt_succ_self _) (hP.sub [0, 1] rfl) hS (lv_sub hl [1, 0] rfl)
theorem hdX1_sealFits : yX1_sealFits.cls = RX1 ∧ yX1_sealFits.cls ≠ "java/lang/invoke/MethodHandle" ∧ yX1_sealFits.cls ≠ "java/lang/invoke/VarHandle" ∧ (parseMethodDescriptor yX1_sealFits.desc).map (fun d => d.parameters.length) = some 1 := by decide +kernel
set_option maxHeartbeats 4000000 in
set_option maxRecDepth 100000 in
theorem kX1_sealFits (ln : Launch) (dg : va_G) (tq : ClassId × ClassId) (h0 h1 : Nat) (c : Row) (s : Row) (hR : XR s c) (hW : WF s) (k : Nat) (hk : k < nS s) : MR ln yX1_sealFits wsX1_sealFits (rmm 1 22) dg tq [.ref h0, .int (nI k)] [(h0, .inr (1, [.ref h1])), (h1, .inl (tq.1, 1473, .inl c))] (fun r => r = (bI (sealB s k))) := by
  refine MR.enter cX1_sealFits 2 .boolean (by decide) rfl rfl (Nat.le_of_ble_eq_true rfl) ?_
  intro pP eE sS mM aA bB mT cC QQ AA hA hAT hret H locs hP hS ls hl
  obtain ⟨hx, hb, hml, hown, hts, hK, hN⟩ := hAT
  have hown : sS.vm.findClass RX1 = some mM.cls := hown
  have hl : lv_has ls 2 [(0, .ref h0), (1, .int (nI k))] := hl
  have hn60 := hW.n60
  have hb10 := hW.b10
  have hs8 := hW.s8
  have hse := hW.sEl hk
  refine lv_aload_n hx hb dX1_sealFits_0 rfl (lv_at hl 0 rfl) ?_
  refine lv_aload_n hx hb dX1_sealFits_1 rfl (lv_at hl 0 rfl) ?_
  refine lv_iload_n hx hb dX1_sealFits_2 rfl (lv_at hl 1 rfl) ?_
  refine lv_iconst (v := (nI 0)) hx hb dX1_sealFits_3 (by decide) ?_
  refine call_x (va_runV (As := [.int (nI k), .int (nI 0)]) (rest := [.ref h0]) ⟨hx, hb, hml, hown, hts⟩ (kX1_ofSeal ln dg tq (h0 := h0) (h1 := h1) (c := c) (e := k) (f := 0) (he := (by omega)) (hf := (by omega)) H.size) (cwV 2 hts gX1_sealFits_X1_ofSeal rfl rfl rfl hdX1_ofSeal ⟨Nat.le_of_ble_eq_true rfl, Nat.le_of_ble_eq_true rfl⟩) (preVR hK hN hP [0, 1] rfl 0 rfl rfl [.int (nI k), .int (nI 0)]) rfl rfl hl.1 rfl (lv_room (Nat.le_of_ble_eq_true rfl)) dX1_sealFits_4 ⟨Nat.le_refl _, Nat.le_refl _⟩) hP hS hA (fun H locs hP hS => ?_)
  refine r_top (show (c (475 + k * 2 + 0)) = (nI (sE s k)) from hR.SE hW (by omega)) ?_
  refine lv_iconst (v := (nI 5)) hx hb dX1_sealFits_7 (by decide) ?_
  refine call_x (va_runV (As := [.int (nI (sE s k)), .int (nI 5)]) (rest := []) ⟨hx, hb, hml, hown, hts⟩ (kX1_ofEntry ln dg tq (h0 := h0) (h1 := h1) (c := c) (e := sE s k) (f := 5) (he := (by omega)) (hf := (by omega)) H.size) (cwV 2 hts gX1_sealFits_X1_ofEntry rfl rfl rfl hdX1_ofEntry ⟨Nat.le_of_ble_eq_true rfl, Nat.le_of_ble_eq_true rfl⟩) (preVR hK hN hP [0, 1] rfl 0 rfl rfl [.int (nI (sE s k)), .int (nI 5)]) rfl rfl hl.1 rfl (lv_room (Nat.le_of_ble_eq_true rfl)) dX1_sealFits_8 ⟨Nat.le_refl _, Nat.le_refl _⟩) hP hS hA (fun H locs hP hS => ?_)
  refine r_top (show (c (5 + (sE s k) * 7 + 5)) = (me s (sE s k) 5) from hR.l (by omega)) ?_
  refine lv_aload_n hx hb dX1_sealFits_11 rfl (lv_at hl 0 rfl) ?_
  refine lv_iload_n hx hb dX1_sealFits_12 rfl (lv_at hl 1 rfl) ?_
  refine lv_iconst (v := (nI 1)) hx hb dX1_sealFits_13 (by decide) ?_
  refine call_x (va_runV (As := [.int (nI k), .int (nI 1)]) (rest := [.int (me s (sE s k) 5)]) ⟨hx, hb, hml, hown, hts⟩ (kX1_ofSeal ln dg tq (h0 := h0) (h1 := h1) (c := c) (e := k) (f := 1) (he := (by omega)) (hf := (by omega)) H.size) (cwV 2 hts gX1_sealFits_X1_ofSeal rfl rfl rfl hdX1_ofSeal ⟨Nat.le_of_ble_eq_true rfl, Nat.le_of_ble_eq_true rfl⟩) (preVR hK hN hP [0, 1] rfl 0 rfl rfl [.int (nI k), .int (nI 1)]) rfl rfl hl.1 rfl (lv_room (Nat.le_of_ble_eq_true rfl)) dX1_sealFits_14 ⟨Nat.le_refl _, Nat.le_refl _⟩) hP hS hA (fun H locs hP hS => ?_)
  refine r_top (show (c (475 + k * 2 + 1)) = (msl s k 1) from hR.sl (by omega)) ?_
  refine lv_icmp_ne (tgt := 24) hx hb dX1_sealFits_17 (by decide) (fun c17 => ?_) (fun c17 => ?_)
  · skip
    refine lv_iconst (v := (nI 0)) hx hb dX1_sealFits_24 (by decide) ?_
    exact hret (nI 0) H locs _ ls (by unfold sealB; first | exact (bI_pos (by assumption)).symm | exact (bI_neg (by assumption)).symm) rfl hS dX1_sealFits_25
  · skip
    refine lv_iconst (v := (nI 1)) hx hb dX1_sealFits_20 (by decide) ?_
    refine lv_goto (tgt := 25) hx hb dX1_sealFits_21 (by decide) ?_
    exact hret (nI 1) H locs _ ls (by unfold sealB; first | exact (bI_pos (by assumption)).symm | exact (bI_neg (by assumption)).symm) rfl hS dX1_sealFits_25
theorem hdX1_brokenSeals : yX1_brokenSeals.cls = RX1 ∧ yX1_brokenSeals.cls ≠ "java/lang/invoke/MethodHandle" ∧ yX1_brokenSeals.cls ≠ "java/lang/invoke/VarHandle" ∧ (parseMethodDescriptor yX1_brokenSeals.desc).map (fun d => d.parameters.length) = some 0 := by decide +kernel
set_option maxHeartbeats 4000000 in
set_option maxRecDepth 100000 in
theorem kX1_brokenSeals (ln : Launch) (dg : va_G) (tq : ClassId × ClassId) (h0 h1 : Nat) (c : Row) (s : Row) (hR : XR s c) (hW : WF s) : MR ln yX1_brokenSeals wsX1_brokenSeals (rmm 2 43) dg tq [.ref h0] [(h0, .inr (1, [.ref h1])), (h1, .inl (tq.1, 1473, .inl c))] (fun r => r = (nI (cntF (fun k => !sealB s k) (nS s)))) := by
  refine MR.enter cX1_brokenSeals 3 .int (by decide) rfl rfl (Nat.le_of_ble_eq_true rfl) ?_
  intro pP eE sS mM aA bB mT cC QQ AA hA hAT hret H locs hP hS ls hl
  obtain ⟨hx, hb, hml, hown, hts, hK, hN⟩ := hAT
  have hown : sS.vm.findClass RX1 = some mM.cls := hown
  have hl : lv_has ls 3 [(0, .ref h0)] := hl
  have hn60 := hW.n60
  have hb10 := hW.b10
  have hs8 := hW.s8
  refine lv_iconst (v := (nI 0)) hx hb dX1_brokenSeals_0 (by decide) ?_
  refine lv_istore_n (lv' := [(1, .int (nI 0)), (0, .ref h0)]) hx hb dX1_brokenSeals_1 rfl hl (by decide) rfl (fun ls hl => ?_)
  refine lv_iconst (v := (nI 0)) hx hb dX1_brokenSeals_2 (by decide) ?_
  refine lv_istore_n (lv' := [(2, .int (nI 0)), (1, .int (nI 0)), (0, .ref h0)]) hx hb dX1_brokenSeals_3 rfl hl (by decide) rfl (fun ls hl => ?_)
  have loop4 : ∀ (fu : Nat) (k_ : Nat) (i_ : Nat) (H : Heap) (locs : List Loc) (ls : Array Slot), (k_ = cntF (fun k => !sealB s k) i_ ∧ i_ ≤ nS s) → nS s - i_ < fu → va_P dg vwCl [(h0, .inr (1, [.ref h1])), (h1, .inl (tq.1, 1473, .inl c))] H → va_S AA sS.heap H locs → lv_has ls 3 [(0, .ref h0), (1, .int (nI k_)), (2, .int (nI i_))] → W pP ln eE (rmm 2 43) sS mM aA bB mT cC H locs 0 0 QQ (F0 mM 4 ls []) := by
    intro fu
    induction fu with
    | zero => intro k_ i_ H locs ls _ hm; exact absurd hm (Nat.not_lt_zero _)
    | succ fu ih4 =>
      intro k_ i_ H locs ls hinv hm hP hS hl
      obtain ⟨hi1, hi2⟩ := hinv
      refine lv_iload_n hx hb dX1_brokenSeals_4 rfl (lv_at hl 2 rfl) ?_
      refine lv_aload_n hx hb dX1_brokenSeals_5 rfl (lv_at hl 0 rfl) ?_
      refine lv_iconst (v := (nI 4)) hx hb dX1_brokenSeals_6 (by decide) ?_
      refine call_x (va_runV (As := [.int (nI 4)]) (rest := [.int (nI i_)]) ⟨hx, hb, hml, hown, hts⟩ (kX1_number ln dg tq (h0 := h0) (h1 := h1) (c := c) (k := 4) (hk := (by omega)) H.size) (cwV 1 hts gX1_brokenSeals_X1_number rfl rfl rfl hdX1_number ⟨Nat.le_of_ble_eq_true rfl, Nat.le_of_ble_eq_true rfl⟩) (preVR hK hN hP [0, 1] rfl 0 rfl rfl [.int (nI 4)]) rfl rfl hl.1 rfl (lv_room (Nat.le_of_ble_eq_true rfl)) dX1_brokenSeals_7 ⟨Nat.le_refl _, Nat.le_refl _⟩) hP hS hA (fun H locs hP hS => ?_)
      refine r_top (show (c 4) = (nI (nS s)) from (hR.ss hW)) ?_
      refine r_icmp_ge (tgt := 30) hx hb (nI_tI (by omega)) (nI_tI (by omega)) dX1_brokenSeals_10 (by decide) (fun c10 => ?_) (fun c10 => ?_)
      · skip
        refine lv_iload_n hx hb dX1_brokenSeals_30 rfl (lv_at hl 1 rfl) ?_
        exact hret (nI k_) H locs _ ls (by rw [hi1, show i_ = nS s by omega]) rfl hS dX1_brokenSeals_31
      · skip
        refine lv_aload_n hx hb dX1_brokenSeals_13 rfl (lv_at hl 0 rfl) ?_
        refine lv_iload_n hx hb dX1_brokenSeals_14 rfl (lv_at hl 2 rfl) ?_
        refine call_x (va_runV (As := [.int (nI i_)]) (rest := []) ⟨hx, hb, hml, hown, hts⟩ (kX1_sealFits ln dg tq (h0 := h0) (h1 := h1) (c := c) (s := s) (hR := hR) (hW := hW) (k := i_) (hk := (by omega)) H.size) (cwV 1 hts gX1_brokenSeals_X1_sealFits rfl rfl rfl hdX1_sealFits ⟨Nat.le_of_ble_eq_true rfl, Nat.le_of_ble_eq_true rfl⟩) (preVR hK hN hP [0, 1] rfl 0 rfl rfl [.int (nI i_)]) rfl rfl hl.1 rfl (lv_room (Nat.le_of_ble_eq_true rfl)) dX1_brokenSeals_15 ⟨Nat.le_refl _, Nat.le_refl _⟩) hP hS hA (fun H locs hP hS => ?_)
        refine r_if_ne_b (tgt := 24) hx hb dX1_brokenSeals_18 (by decide) (fun c18 => ?_) (fun c18 => ?_)
        · skip
          refine lv_iinc (v := (nI (i_ + 1))) (lv' := [(2, .int (nI (i_ + 1))), (0, .ref h0), (1, .int (nI k_))]) hx hb dX1_brokenSeals_24 hl (k := 2) rfl (nI_add _ _) (by decide) rfl (fun ls hl => ?_)
          refine lv_goto (tgt := 4) hx hb dX1_brokenSeals_27 (by decide) ?_
          exact ih4 k_ (i_ + 1) H locs ls (⟨by simp [cntF, c18, hi1], by omega⟩) (by omega) (hP.sub [0, 1] rfl) hS (lv_sub hl [1, 2, 0] rfl)
        · skip
          refine lv_iinc (v := (nI (k_ + 1))) (lv' := [(1, .int (nI (k_ + 1))), (0, .ref h0), (2, .int (nI i_))]) hx hb dX1_brokenSeals_21 hl (k := 1) rfl (nI_add _ _) (by decide) rfl (fun ls hl => ?_)
          refine lv_iinc (v := (nI (i_ + 1))) (lv' := [(2, .int (nI (i_ + 1))), (1, .int (nI (k_ + 1))), (0, .ref h0)]) hx hb dX1_brokenSeals_24 hl (k := 2) rfl (nI_add _ _) (by decide) rfl (fun ls hl => ?_)
          refine lv_goto (tgt := 4) hx hb dX1_brokenSeals_27 (by decide) ?_
          exact ih4 (k_ + 1) (i_ + 1) H locs ls (⟨by simp [cntF, c18, hi1], by omega⟩) (by omega) (hP.sub [0, 1] rfl) hS (lv_sub hl [2, 1, 0] rfl)
  exact loop4 _ 0 0 H locs ls (⟨rfl, by omega⟩) (Nat.lt_succ_self _) (hP.sub [0, 1] rfl) hS (lv_sub hl [2, 1, 0] rfl)
theorem hdX1_isWaiting : yX1_isWaiting.cls = RX1 ∧ yX1_isWaiting.cls ≠ "java/lang/invoke/MethodHandle" ∧ yX1_isWaiting.cls ≠ "java/lang/invoke/VarHandle" ∧ (parseMethodDescriptor yX1_isWaiting.desc).map (fun d => d.parameters.length) = some 1 := by decide +kernel
set_option maxHeartbeats 4000000 in
set_option maxRecDepth 100000 in
theorem kX1_isWaiting (ln : Launch) (dg : va_G) (tq : ClassId × ClassId) (h0 h1 : Nat) (c : Row) (s : Row) (hR : XR s c) (hW : WF s) (b : Nat) (hb0 : b < nB s) : MR ln yX1_isWaiting wsX1_isWaiting (rmm 1 22) dg tq [.ref h0, .int (nI b)] [(h0, .inr (1, [.ref h1])), (h1, .inl (tq.1, 1473, .inl c))] (fun r => r = (bI (waitB s b))) := by
  refine MR.enter cX1_isWaiting 2 .boolean (by decide) rfl rfl (Nat.le_of_ble_eq_true rfl) ?_
  intro pP eE sS mM aA bB mT cC QQ AA hA hAT hret H locs hP hS ls hl
  obtain ⟨hx, hb, hml, hown, hts, hK, hN⟩ := hAT
  have hown : sS.vm.findClass RX1 = some mM.cls := hown
  have hl : lv_has ls 2 [(0, .ref h0), (1, .int (nI b))] := hl
  have hn60 := hW.n60
  have hb10 := hW.b10
  have hs8 := hW.s8
  refine lv_aload_n hx hb dX1_isWaiting_0 rfl (lv_at hl 0 rfl) ?_
  refine lv_iload_n hx hb dX1_isWaiting_1 rfl (lv_at hl 1 rfl) ?_
  refine lv_iconst (v := (nI 4)) hx hb dX1_isWaiting_2 (by decide) ?_
  refine call_x (va_runV (As := [.int (nI b), .int (nI 4)]) (rest := []) ⟨hx, hb, hml, hown, hts⟩ (kX1_ofBranch ln dg tq (h0 := h0) (h1 := h1) (c := c) (e := b) (f := 4) (he := (by omega)) (hf := (by omega)) H.size) (cwV 2 hts gX1_isWaiting_X1_ofBranch rfl rfl rfl hdX1_ofBranch ⟨Nat.le_of_ble_eq_true rfl, Nat.le_of_ble_eq_true rfl⟩) (preVR hK hN hP [0, 1] rfl 0 rfl rfl [.int (nI b), .int (nI 4)]) rfl rfl hl.1 rfl (lv_room (Nat.le_of_ble_eq_true rfl)) dX1_isWaiting_3 ⟨Nat.le_refl _, Nat.le_refl _⟩) hP hS hA (fun H locs hP hS => ?_)
  refine r_top (show (c (425 + b * 5 + 4)) = (mb s b 3) from hR.st (by omega)) ?_
  refine r_if_ne (tgt := 13) hx hb rfl dX1_isWaiting_6 (by decide) (fun c6 => ?_) (fun c6 => ?_)
  · skip
    refine lv_iconst (v := (nI 0)) hx hb dX1_isWaiting_13 (by decide) ?_
    exact hret (nI 0) H locs _ ls (by unfold waitB; first | exact (bI_pos (i32_eq (by assumption))).symm | exact (bI_neg (fun z => c6 (by rw [z]; rfl))).symm) rfl hS dX1_isWaiting_14
  · skip
    refine lv_iconst (v := (nI 1)) hx hb dX1_isWaiting_9 (by decide) ?_
    refine lv_goto (tgt := 14) hx hb dX1_isWaiting_10 (by decide) ?_
    exact hret (nI 1) H locs _ ls (by unfold waitB; first | exact (bI_pos (i32_eq (by assumption))).symm | exact (bI_neg (fun z => c6 (by rw [z]; rfl))).symm) rfl hS dX1_isWaiting_14
theorem hdX1_isLoud : yX1_isLoud.cls = RX1 ∧ yX1_isLoud.cls ≠ "java/lang/invoke/MethodHandle" ∧ yX1_isLoud.cls ≠ "java/lang/invoke/VarHandle" ∧ (parseMethodDescriptor yX1_isLoud.desc).map (fun d => d.parameters.length) = some 1 := by decide +kernel
set_option maxHeartbeats 4000000 in
set_option maxRecDepth 100000 in
theorem kX1_isLoud (ln : Launch) (dg : va_G) (tq : ClassId × ClassId) (h0 h1 : Nat) (c : Row) (s : Row) (hR : XR s c) (hW : WF s) (b : Nat) (hb0 : b < nB s) : MR ln yX1_isLoud wsX1_isLoud (rmm 2 43) dg tq [.ref h0, .int (nI b)] [(h0, .inr (1, [.ref h1])), (h1, .inl (tq.1, 1473, .inl c))] (fun r => r = (bI (loudB s b))) := by
  refine MR.enter cX1_isLoud 2 .boolean (by decide) rfl rfl (Nat.le_of_ble_eq_true rfl) ?_
  intro pP eE sS mM aA bB mT cC QQ AA hA hAT hret H locs hP hS ls hl
  obtain ⟨hx, hb, hml, hown, hts, hK, hN⟩ := hAT
  have hown : sS.vm.findClass RX1 = some mM.cls := hown
  have hl : lv_has ls 2 [(0, .ref h0), (1, .int (nI b))] := hl
  have hn60 := hW.n60
  have hb10 := hW.b10
  have hs8 := hW.s8
  refine lv_aload_n hx hb dX1_isLoud_0 rfl (lv_at hl 0 rfl) ?_
  refine lv_iload_n hx hb dX1_isLoud_1 rfl (lv_at hl 1 rfl) ?_
  refine call_x (va_runV (As := [.int (nI b)]) (rest := []) ⟨hx, hb, hml, hown, hts⟩ (kX1_isWaiting ln dg tq (h0 := h0) (h1 := h1) (c := c) (s := s) (hR := hR) (hW := hW) (b := b) (hb0 := (by omega)) H.size) (cwV 1 hts gX1_isLoud_X1_isWaiting rfl rfl rfl hdX1_isWaiting ⟨Nat.le_of_ble_eq_true rfl, Nat.le_of_ble_eq_true rfl⟩) (preVR hK hN hP [0, 1] rfl 0 rfl rfl [.int (nI b)]) rfl rfl hl.1 rfl (lv_room (Nat.le_of_ble_eq_true rfl)) dX1_isLoud_2 ⟨Nat.le_refl _, Nat.le_refl _⟩) hP hS hA (fun H locs hP hS => ?_)
  refine r_if_eq_b (tgt := 26) hx hb dX1_isLoud_5 (by decide) (fun c5 => ?_) (fun c5 => ?_)
  · skip
    refine lv_iconst (v := (nI 0)) hx hb dX1_isLoud_26 (by decide) ?_
    exact hret (nI 0) H locs _ ls (by unfold loudB; rw [c5]; first | rfl | (rw [Bool.true_and]; first | exact (bI_pos (by omega)).symm | exact (bI_neg (by omega)).symm)) rfl hS dX1_isLoud_27
  · skip
    refine lv_aload_n hx hb dX1_isLoud_8 rfl (lv_at hl 0 rfl) ?_
    refine lv_iload_n hx hb dX1_isLoud_9 rfl (lv_at hl 1 rfl) ?_
    refine lv_iconst (v := (nI 3)) hx hb dX1_isLoud_10 (by decide) ?_
    refine call_x (va_runV (As := [.int (nI b), .int (nI 3)]) (rest := []) ⟨hx, hb, hml, hown, hts⟩ (kX1_ofBranch ln dg tq (h0 := h0) (h1 := h1) (c := c) (e := b) (f := 3) (he := (by omega)) (hf := (by omega)) H.size) (cwV 2 hts gX1_isLoud_X1_ofBranch rfl rfl rfl hdX1_ofBranch ⟨Nat.le_of_ble_eq_true rfl, Nat.le_of_ble_eq_true rfl⟩) (preVR hK hN hP [0, 1] rfl 0 rfl rfl [.int (nI b), .int (nI 3)]) rfl rfl hl.1 rfl (lv_room (Nat.le_of_ble_eq_true rfl)) dX1_isLoud_11 ⟨Nat.le_refl _, Nat.le_refl _⟩) hP hS hA (fun H locs hP hS => ?_)
    refine r_top (show (c (425 + b * 5 + 3)) = (mb s b 2) from hR.pl (by omega)) ?_
    refine lv_aload_n hx hb dX1_isLoud_14 rfl (lv_at hl 0 rfl) ?_
    refine lv_iconst (v := (nI 2)) hx hb dX1_isLoud_15 (by decide) ?_
    refine call_x (va_runV (As := [.int (nI 2)]) (rest := [.int (mb s b 2)]) ⟨hx, hb, hml, hown, hts⟩ (kX1_number ln dg tq (h0 := h0) (h1 := h1) (c := c) (k := 2) (hk := (by omega)) H.size) (cwV 1 hts gX1_isLoud_X1_number rfl rfl rfl hdX1_number ⟨Nat.le_of_ble_eq_true rfl, Nat.le_of_ble_eq_true rfl⟩) (preVR hK hN hP [0, 1] rfl 0 rfl rfl [.int (nI 2)]) rfl rfl hl.1 rfl (lv_room (Nat.le_of_ble_eq_true rfl)) dX1_isLoud_16 ⟨Nat.le_refl _, Nat.le_refl _⟩) hP hS hA (fun H locs hP hS => ?_)
    refine r_top (show (c 2) = (s 3) from hR.pt) ?_
    refine r_icmp_lt (tgt := 26) hx hb rfl rfl dX1_isLoud_19 (by decide) (fun c19 => ?_) (fun c19 => ?_)
    · skip
      refine lv_iconst (v := (nI 0)) hx hb dX1_isLoud_26 (by decide) ?_
      exact hret (nI 0) H locs _ ls (by unfold loudB; rw [c5]; first | rfl | (rw [Bool.true_and]; first | exact (bI_pos (by omega)).symm | exact (bI_neg (by omega)).symm)) rfl hS dX1_isLoud_27
    · skip
      refine lv_iconst (v := (nI 1)) hx hb dX1_isLoud_22 (by decide) ?_
      refine lv_goto (tgt := 27) hx hb dX1_isLoud_23 (by decide) ?_
      exact hret (nI 1) H locs _ ls (by unfold loudB; rw [c5]; first | rfl | (rw [Bool.true_and]; first | exact (bI_pos (by omega)).symm | exact (bI_neg (by omega)).symm)) rfl hS dX1_isLoud_27
theorem hdX1_waitingBranches : yX1_waitingBranches.cls = RX1 ∧ yX1_waitingBranches.cls ≠ "java/lang/invoke/MethodHandle" ∧ yX1_waitingBranches.cls ≠ "java/lang/invoke/VarHandle" ∧ (parseMethodDescriptor yX1_waitingBranches.desc).map (fun d => d.parameters.length) = some 0 := by decide +kernel
set_option maxHeartbeats 4000000 in
set_option maxRecDepth 100000 in
theorem kX1_waitingBranches (ln : Launch) (dg : va_G) (tq : ClassId × ClassId) (h0 h1 : Nat) (c : Row) (s : Row) (hR : XR s c) (hW : WF s) : MR ln yX1_waitingBranches wsX1_waitingBranches (rmm 2 43) dg tq [.ref h0] [(h0, .inr (1, [.ref h1])), (h1, .inl (tq.1, 1473, .inl c))] (fun r => r = (nI (cntF (waitB s) (nB s)))) := by
  refine MR.enter cX1_waitingBranches 3 .int (by decide) rfl rfl (Nat.le_of_ble_eq_true rfl) ?_
  intro pP eE sS mM aA bB mT cC QQ AA hA hAT hret H locs hP hS ls hl
  obtain ⟨hx, hb, hml, hown, hts, hK, hN⟩ := hAT
  have hown : sS.vm.findClass RX1 = some mM.cls := hown
  have hl : lv_has ls 3 [(0, .ref h0)] := hl
  have hn60 := hW.n60
  have hb10 := hW.b10
  have hs8 := hW.s8
  refine lv_iconst (v := (nI 0)) hx hb dX1_waitingBranches_0 (by decide) ?_
  refine lv_istore_n (lv' := [(1, .int (nI 0)), (0, .ref h0)]) hx hb dX1_waitingBranches_1 rfl hl (by decide) rfl (fun ls hl => ?_)
  refine lv_iconst (v := (nI 0)) hx hb dX1_waitingBranches_2 (by decide) ?_
  refine lv_istore_n (lv' := [(2, .int (nI 0)), (1, .int (nI 0)), (0, .ref h0)]) hx hb dX1_waitingBranches_3 rfl hl (by decide) rfl (fun ls hl => ?_)
  have loop4 : ∀ (fu : Nat) (k_ : Nat) (i_ : Nat) (H : Heap) (locs : List Loc) (ls : Array Slot), (k_ = cntF (waitB s) i_ ∧ i_ ≤ nB s) → nB s - i_ < fu → va_P dg vwCl [(h0, .inr (1, [.ref h1])), (h1, .inl (tq.1, 1473, .inl c))] H → va_S AA sS.heap H locs → lv_has ls 3 [(0, .ref h0), (1, .int (nI k_)), (2, .int (nI i_))] → W pP ln eE (rmm 2 43) sS mM aA bB mT cC H locs 0 0 QQ (F0 mM 4 ls []) := by
    intro fu
    induction fu with
    | zero => intro k_ i_ H locs ls _ hm; exact absurd hm (Nat.not_lt_zero _)
    | succ fu ih4 =>
      intro k_ i_ H locs ls hinv hm hP hS hl
      obtain ⟨hi1, hi2⟩ := hinv
      refine lv_iload_n hx hb dX1_waitingBranches_4 rfl (lv_at hl 2 rfl) ?_
      refine lv_aload_n hx hb dX1_waitingBranches_5 rfl (lv_at hl 0 rfl) ?_
      refine lv_iconst (v := (nI 3)) hx hb dX1_waitingBranches_6 (by decide) ?_
      refine call_x (va_runV (As := [.int (nI 3)]) (rest := [.int (nI i_)]) ⟨hx, hb, hml, hown, hts⟩ (kX1_number ln dg tq (h0 := h0) (h1 := h1) (c := c) (k := 3) (hk := (by omega)) H.size) (cwV 1 hts gX1_waitingBranches_X1_number rfl rfl rfl hdX1_number ⟨Nat.le_of_ble_eq_true rfl, Nat.le_of_ble_eq_true rfl⟩) (preVR hK hN hP [0, 1] rfl 0 rfl rfl [.int (nI 3)]) rfl rfl hl.1 rfl (lv_room (Nat.le_of_ble_eq_true rfl)) dX1_waitingBranches_7 ⟨Nat.le_refl _, Nat.le_refl _⟩) hP hS hA (fun H locs hP hS => ?_)
      refine r_top (show (c 3) = (nI (nB s)) from (hR.bb hW)) ?_
      refine r_icmp_ge (tgt := 30) hx hb (nI_tI (by omega)) (nI_tI (by omega)) dX1_waitingBranches_10 (by decide) (fun c10 => ?_) (fun c10 => ?_)
      · skip
        refine lv_iload_n hx hb dX1_waitingBranches_30 rfl (lv_at hl 1 rfl) ?_
        exact hret (nI k_) H locs _ ls (by rw [hi1, show i_ = nB s by omega]) rfl hS dX1_waitingBranches_31
      · skip
        refine lv_aload_n hx hb dX1_waitingBranches_13 rfl (lv_at hl 0 rfl) ?_
        refine lv_iload_n hx hb dX1_waitingBranches_14 rfl (lv_at hl 2 rfl) ?_
        refine call_x (va_runV (As := [.int (nI i_)]) (rest := []) ⟨hx, hb, hml, hown, hts⟩ (kX1_isWaiting ln dg tq (h0 := h0) (h1 := h1) (c := c) (s := s) (hR := hR) (hW := hW) (b := i_) (hb0 := (by omega)) H.size) (cwV 1 hts gX1_waitingBranches_X1_isWaiting rfl rfl rfl hdX1_isWaiting ⟨Nat.le_of_ble_eq_true rfl, Nat.le_of_ble_eq_true rfl⟩) (preVR hK hN hP [0, 1] rfl 0 rfl rfl [.int (nI i_)]) rfl rfl hl.1 rfl (lv_room (Nat.le_of_ble_eq_true rfl)) dX1_waitingBranches_15 ⟨Nat.le_refl _, Nat.le_refl _⟩) hP hS hA (fun H locs hP hS => ?_)
        refine r_if_eq_b (tgt := 24) hx hb dX1_waitingBranches_18 (by decide) (fun c18 => ?_) (fun c18 => ?_)
        · skip
          refine lv_iinc (v := (nI (i_ + 1))) (lv' := [(2, .int (nI (i_ + 1))), (0, .ref h0), (1, .int (nI k_))]) hx hb dX1_waitingBranches_24 hl (k := 2) rfl (nI_add _ _) (by decide) rfl (fun ls hl => ?_)
          refine lv_goto (tgt := 4) hx hb dX1_waitingBranches_27 (by decide) ?_
          exact ih4 k_ (i_ + 1) H locs ls (⟨by simp [cntF, c18, hi1], by omega⟩) (by omega) (hP.sub [0, 1] rfl) hS (lv_sub hl [1, 2, 0] rfl)
        · skip
          refine lv_iinc (v := (nI (k_ + 1))) (lv' := [(1, .int (nI (k_ + 1))), (0, .ref h0), (2, .int (nI i_))]) hx hb dX1_waitingBranches_21 hl (k := 1) rfl (nI_add _ _) (by decide) rfl (fun ls hl => ?_)
          refine lv_iinc (v := (nI (i_ + 1))) (lv' := [(2, .int (nI (i_ + 1))), (1, .int (nI (k_ + 1))), (0, .ref h0)]) hx hb dX1_waitingBranches_24 hl (k := 2) rfl (nI_add _ _) (by decide) rfl (fun ls hl => ?_)
          refine lv_goto (tgt := 4) hx hb dX1_waitingBranches_27 (by decide) ?_
          exact ih4 (k_ + 1) (i_ + 1) H locs ls (⟨by simp [cntF, c18, hi1], by omega⟩) (by omega) (hP.sub [0, 1] rfl) hS (lv_sub hl [2, 1, 0] rfl)
  exact loop4 _ 0 0 H locs ls (⟨rfl, by omega⟩) (Nat.lt_succ_self _) (hP.sub [0, 1] rfl) hS (lv_sub hl [2, 1, 0] rfl)
theorem hdX1_loudBranches : yX1_loudBranches.cls = RX1 ∧ yX1_loudBranches.cls ≠ "java/lang/invoke/MethodHandle" ∧ yX1_loudBranches.cls ≠ "java/lang/invoke/VarHandle" ∧ (parseMethodDescriptor yX1_loudBranches.desc).map (fun d => d.parameters.length) = some 0 := by decide +kernel
set_option maxHeartbeats 4000000 in
set_option maxRecDepth 100000 in
theorem kX1_loudBranches (ln : Launch) (dg : va_G) (tq : ClassId × ClassId) (h0 h1 : Nat) (c : Row) (s : Row) (hR : XR s c) (hW : WF s) : MR ln yX1_loudBranches wsX1_loudBranches (rmm 3 64) dg tq [.ref h0] [(h0, .inr (1, [.ref h1])), (h1, .inl (tq.1, 1473, .inl c))] (fun r => r = (nI (cntF (loudB s) (nB s)))) := by
  refine MR.enter cX1_loudBranches 3 .int (by decide) rfl rfl (Nat.le_of_ble_eq_true rfl) ?_
  intro pP eE sS mM aA bB mT cC QQ AA hA hAT hret H locs hP hS ls hl
  obtain ⟨hx, hb, hml, hown, hts, hK, hN⟩ := hAT
  have hown : sS.vm.findClass RX1 = some mM.cls := hown
  have hl : lv_has ls 3 [(0, .ref h0)] := hl
  have hn60 := hW.n60
  have hb10 := hW.b10
  have hs8 := hW.s8
  refine lv_iconst (v := (nI 0)) hx hb dX1_loudBranches_0 (by decide) ?_
  refine lv_istore_n (lv' := [(1, .int (nI 0)), (0, .ref h0)]) hx hb dX1_loudBranches_1 rfl hl (by decide) rfl (fun ls hl => ?_)
  refine lv_iconst (v := (nI 0)) hx hb dX1_loudBranches_2 (by decide) ?_
  refine lv_istore_n (lv' := [(2, .int (nI 0)), (1, .int (nI 0)), (0, .ref h0)]) hx hb dX1_loudBranches_3 rfl hl (by decide) rfl (fun ls hl => ?_)
  have loop4 : ∀ (fu : Nat) (k_ : Nat) (i_ : Nat) (H : Heap) (locs : List Loc) (ls : Array Slot), (k_ = cntF (loudB s) i_ ∧ i_ ≤ nB s) → nB s - i_ < fu → va_P dg vwCl [(h0, .inr (1, [.ref h1])), (h1, .inl (tq.1, 1473, .inl c))] H → va_S AA sS.heap H locs → lv_has ls 3 [(0, .ref h0), (1, .int (nI k_)), (2, .int (nI i_))] → W pP ln eE (rmm 3 64) sS mM aA bB mT cC H locs 0 0 QQ (F0 mM 4 ls []) := by
    intro fu
    induction fu with
    | zero => intro k_ i_ H locs ls _ hm; exact absurd hm (Nat.not_lt_zero _)
    | succ fu ih4 =>
      intro k_ i_ H locs ls hinv hm hP hS hl
      obtain ⟨hi1, hi2⟩ := hinv
      refine lv_iload_n hx hb dX1_loudBranches_4 rfl (lv_at hl 2 rfl) ?_
      refine lv_aload_n hx hb dX1_loudBranches_5 rfl (lv_at hl 0 rfl) ?_
      refine lv_iconst (v := (nI 3)) hx hb dX1_loudBranches_6 (by decide) ?_
      refine call_x (va_runV (As := [.int (nI 3)]) (rest := [.int (nI i_)]) ⟨hx, hb, hml, hown, hts⟩ (kX1_number ln dg tq (h0 := h0) (h1 := h1) (c := c) (k := 3) (hk := (by omega)) H.size) (cwV 1 hts gX1_loudBranches_X1_number rfl rfl rfl hdX1_number ⟨Nat.le_of_ble_eq_true rfl, Nat.le_of_ble_eq_true rfl⟩) (preVR hK hN hP [0, 1] rfl 0 rfl rfl [.int (nI 3)]) rfl rfl hl.1 rfl (lv_room (Nat.le_of_ble_eq_true rfl)) dX1_loudBranches_7 ⟨Nat.le_refl _, Nat.le_refl _⟩) hP hS hA (fun H locs hP hS => ?_)
      refine r_top (show (c 3) = (nI (nB s)) from (hR.bb hW)) ?_
      refine r_icmp_ge (tgt := 30) hx hb (nI_tI (by omega)) (nI_tI (by omega)) dX1_loudBranches_10 (by decide) (fun c10 => ?_) (fun c10 => ?_)
      · skip
        refine lv_iload_n hx hb dX1_loudBranches_30 rfl (lv_at hl 1 rfl) ?_
        exact hret (nI k_) H locs _ ls (by rw [hi1, show i_ = nB s by omega]) rfl hS dX1_loudBranches_31
      · skip
        refine lv_aload_n hx hb dX1_loudBranches_13 rfl (lv_at hl 0 rfl) ?_
        refine lv_iload_n hx hb dX1_loudBranches_14 rfl (lv_at hl 2 rfl) ?_
        refine call_x (va_runV (As := [.int (nI i_)]) (rest := []) ⟨hx, hb, hml, hown, hts⟩ (kX1_isLoud ln dg tq (h0 := h0) (h1 := h1) (c := c) (s := s) (hR := hR) (hW := hW) (b := i_) (hb0 := (by omega)) H.size) (cwV 1 hts gX1_loudBranches_X1_isLoud rfl rfl rfl hdX1_isLoud ⟨Nat.le_of_ble_eq_true rfl, Nat.le_of_ble_eq_true rfl⟩) (preVR hK hN hP [0, 1] rfl 0 rfl rfl [.int (nI i_)]) rfl rfl hl.1 rfl (lv_room (Nat.le_of_ble_eq_true rfl)) dX1_loudBranches_15 ⟨Nat.le_refl _, Nat.le_refl _⟩) hP hS hA (fun H locs hP hS => ?_)
        refine r_if_eq_b (tgt := 24) hx hb dX1_loudBranches_18 (by decide) (fun c18 => ?_) (fun c18 => ?_)
        · skip
          refine lv_iinc (v := (nI (i_ + 1))) (lv' := [(2, .int (nI (i_ + 1))), (0, .ref h0), (1, .int (nI k_))]) hx hb dX1_loudBranches_24 hl (k := 2) rfl (nI_add _ _) (by decide) rfl (fun ls hl => ?_)
          refine lv_goto (tgt := 4) hx hb dX1_loudBranches_27 (by decide) ?_
          exact ih4 k_ (i_ + 1) H locs ls (⟨by simp [cntF, c18, hi1], by omega⟩) (by omega) (hP.sub [0, 1] rfl) hS (lv_sub hl [1, 2, 0] rfl)
        · skip
          refine lv_iinc (v := (nI (k_ + 1))) (lv' := [(1, .int (nI (k_ + 1))), (0, .ref h0), (2, .int (nI i_))]) hx hb dX1_loudBranches_21 hl (k := 1) rfl (nI_add _ _) (by decide) rfl (fun ls hl => ?_)
          refine lv_iinc (v := (nI (i_ + 1))) (lv' := [(2, .int (nI (i_ + 1))), (1, .int (nI (k_ + 1))), (0, .ref h0)]) hx hb dX1_loudBranches_24 hl (k := 2) rfl (nI_add _ _) (by decide) rfl (fun ls hl => ?_)
          refine lv_goto (tgt := 4) hx hb dX1_loudBranches_27 (by decide) ?_
          exact ih4 (k_ + 1) (i_ + 1) H locs ls (⟨by simp [cntF, c18, hi1], by omega⟩) (by omega) (hP.sub [0, 1] rfl) hS (lv_sub hl [2, 1, 0] rfl)
  exact loop4 _ 0 0 H locs ls (⟨rfl, by omega⟩) (Nat.lt_succ_self _) (hP.sub [0, 1] rfl) hS (lv_sub hl [2, 1, 0] rfl)
