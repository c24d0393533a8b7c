theorem hdX7_isWithin : yX7_isWithin.cls = RX7 ∧ yX7_isWithin.cls ≠ "java/lang/invoke/MethodHandle" ∧ yX7_isWithin.cls ≠ "java/lang/invoke/VarHandle" ∧ (parseMethodDescriptor yX7_isWithin.desc).map (fun d => d.parameters.length) = some 3 := by decide +kernel
set_option maxHeartbeats 4000000 in
set_option maxRecDepth 100000 in
theorem kX7_isWithin (ln : Launch) (dg : va_G) (tq : ClassId × ClassId) (v lo hi : Int32) : MR ln yX7_isWithin wsX7_isWithin (rmm 0 0) dg tq [.int v, .int lo, .int hi] [] (fun r => r = (bI (inR v lo hi))) := by
  refine MR.enter cX7_isWithin 3 .boolean (by decide) rfl rfl (Nat.le_of_ble_eq_true rfl) ?_
  intro pP eE sS mM aA bB mT cC QQ AA hA hAT hret H locs hP hS ls hl
  obtain ⟨hx, hb, hml, hown, hts, hK, hN⟩ := hAT
  have hown : sS.vm.findClass RX7 = some mM.cls := hown
  have hl : lv_has ls 3 [(0, .int v), (1, .int lo), (2, .int hi)] := hl
  refine lv_iload_n hx hb dX7_isWithin_0 rfl (lv_at hl 0 rfl) ?_
  refine lv_iload_n hx hb dX7_isWithin_1 rfl (lv_at hl 1 rfl) ?_
  refine r_icmp_lt (tgt := 14) hx hb rfl rfl dX7_isWithin_2 (by decide) (fun c2 => ?_) (fun c2 => ?_)
  · skip
    refine lv_iconst (v := (nI 0)) hx hb dX7_isWithin_14 (by decide) ?_
    exact hret (nI 0) H locs _ ls (by first | exact (bI_pos (by omega)).symm | exact (bI_neg (by omega)).symm) rfl hS dX7_isWithin_15
  · skip
    refine lv_iload_n hx hb dX7_isWithin_5 rfl (lv_at hl 0 rfl) ?_
    refine lv_iload_n hx hb dX7_isWithin_6 rfl (lv_at hl 2 rfl) ?_
    refine r_icmp_gt (tgt := 14) hx hb rfl rfl dX7_isWithin_7 (by decide) (fun c7 => ?_) (fun c7 => ?_)
    · skip
      refine lv_iconst (v := (nI 0)) hx hb dX7_isWithin_14 (by decide) ?_
      exact hret (nI 0) H locs _ ls (by first | exact (bI_pos (by omega)).symm | exact (bI_neg (by omega)).symm) rfl hS dX7_isWithin_15
    · skip
      refine lv_iconst (v := (nI 1)) hx hb dX7_isWithin_10 (by decide) ?_
      refine lv_goto (tgt := 15) hx hb dX7_isWithin_11 (by decide) ?_
      exact hret (nI 1) H locs _ ls (by first | exact (bI_pos (by omega)).symm | exact (bI_neg (by omega)).symm) rfl hS dX7_isWithin_15
theorem hdX7_isAccount : yX7_isAccount.cls = RX7 ∧ yX7_isAccount.cls ≠ "java/lang/invoke/MethodHandle" ∧ yX7_isAccount.cls ≠ "java/lang/invoke/VarHandle" ∧ (parseMethodDescriptor yX7_isAccount.desc).map (fun d => d.parameters.length) = some 1 := by decide +kernel
set_option maxHeartbeats 4000000 in
set_option maxRecDepth 100000 in
theorem kX7_isAccount (ln : Launch) (dg : va_G) (tq : ClassId × ClassId) (v : Int32) : MR ln yX7_isAccount wsX7_isAccount (rmm 1 22) dg tq [.int v] [] (fun r => r = (bI (inR v (nI 0) (nI 5)))) := by
  refine MR.enter cX7_isAccount 1 .boolean (by decide) rfl rfl (Nat.le_of_ble_eq_true rfl) ?_
  intro pP eE sS mM aA bB mT cC QQ AA hA hAT hret H locs hP hS ls hl
  obtain ⟨hx, hb, hml, hown, hts, hK, hN⟩ := hAT
  have hown : sS.vm.findClass RX7 = some mM.cls := hown
  have hl : lv_has ls 1 [(0, .int v)] := hl
  refine lv_iload_n hx hb dX7_isAccount_0 rfl (lv_at hl 0 rfl) ?_
  refine lv_iconst (v := (nI 0)) hx hb dX7_isAccount_1 (by decide) ?_
  refine lv_iconst (v := (nI 5)) hx hb dX7_isAccount_2 (by decide) ?_
  refine call_x (va_runS (As := [.int v, .int (nI 0), .int (nI 5)]) (rest := []) ⟨hx, hb, hml, hown, hts⟩ (kX7_isWithin ln dg tq (v := v) (lo := (nI 0)) (hi := (nI 5)) H.size) (va_cwS 3 hts gX7_isAccount_X7_isWithin rfl rfl rfl hdX7_isWithin.2 ⟨Nat.le_of_ble_eq_true rfl, Nat.le_of_ble_eq_true rfl⟩) (preS0 hK hN [.int v, .int (nI 0), .int (nI 5)]) rfl rfl hl.1 rfl (lv_room (Nat.le_of_ble_eq_true rfl)) dX7_isAccount_3 ⟨Nat.le_refl _, Nat.le_refl _⟩) hP hS hA (fun H locs hP hS => ?_)
  exact hret (bI (inR v (nI 0) (nI 5))) H locs _ ls (rfl) (narrow_bI _) hS dX7_isAccount_6
theorem hdX7_isPayer : yX7_isPayer.cls = RX7 ∧ yX7_isPayer.cls ≠ "java/lang/invoke/MethodHandle" ∧ yX7_isPayer.cls ≠ "java/lang/invoke/VarHandle" ∧ (parseMethodDescriptor yX7_isPayer.desc).map (fun d => d.parameters.length) = some 1 := by decide +kernel
set_option maxHeartbeats 4000000 in
set_option maxRecDepth 100000 in
theorem kX7_isPayer (ln : Launch) (dg : va_G) (tq : ClassId × ClassId) (v : Int32) : MR ln yX7_isPayer wsX7_isPayer (rmm 1 22) dg tq [.int v] [] (fun r => r = (bI (inR v (nI 1) (nI 5)))) := by
  refine MR.enter cX7_isPayer 1 .boolean (by decide) rfl rfl (Nat.le_of_ble_eq_true rfl) ?_
  intro pP eE sS mM aA bB mT cC QQ AA hA hAT hret H locs hP hS ls hl
  obtain ⟨hx, hb, hml, hown, hts, hK, hN⟩ := hAT
  have hown : sS.vm.findClass RX7 = some mM.cls := hown
  have hl : lv_has ls 1 [(0, .int v)] := hl
  refine lv_iload_n hx hb dX7_isPayer_0 rfl (lv_at hl 0 rfl) ?_
  refine lv_iconst (v := (nI 1)) hx hb dX7_isPayer_1 (by decide) ?_
  refine lv_iconst (v := (nI 5)) hx hb dX7_isPayer_2 (by decide) ?_
  refine call_x (va_runS (As := [.int v, .int (nI 1), .int (nI 5)]) (rest := []) ⟨hx, hb, hml, hown, hts⟩ (kX7_isWithin ln dg tq (v := v) (lo := (nI 1)) (hi := (nI 5)) H.size) (va_cwS 3 hts gX7_isPayer_X7_isWithin rfl rfl rfl hdX7_isWithin.2 ⟨Nat.le_of_ble_eq_true rfl, Nat.le_of_ble_eq_true rfl⟩) (preS0 hK hN [.int v, .int (nI 1), .int (nI 5)]) rfl rfl hl.1 rfl (lv_room (Nat.le_of_ble_eq_true rfl)) dX7_isPayer_3 ⟨Nat.le_refl _, Nat.le_refl _⟩) hP hS hA (fun H locs hP hS => ?_)
  exact hret (bI (inR v (nI 1) (nI 5))) H locs _ ls (rfl) (narrow_bI _) hS dX7_isPayer_6
theorem hdX7_isSum : yX7_isSum.cls = RX7 ∧ yX7_isSum.cls ≠ "java/lang/invoke/MethodHandle" ∧ yX7_isSum.cls ≠ "java/lang/invoke/VarHandle" ∧ (parseMethodDescriptor yX7_isSum.desc).map (fun d => d.parameters.length) = some 1 := by decide +kernel
set_option maxHeartbeats 4000000 in
set_option maxRecDepth 100000 in
theorem kX7_isSum (ln : Launch) (dg : va_G) (tq : ClassId × ClassId) (v : Int32) : MR ln yX7_isSum wsX7_isSum (rmm 1 22) dg tq [.int v] [] (fun r => r = (bI (inR v (nI 1) (nI 999)))) := by
  refine MR.enter cX7_isSum 1 .boolean (by decide) rfl rfl (Nat.le_of_ble_eq_true rfl) ?_
  intro pP eE sS mM aA bB mT cC QQ AA hA hAT hret H locs hP hS ls hl
  obtain ⟨hx, hb, hml, hown, hts, hK, hN⟩ := hAT
  have hown : sS.vm.findClass RX7 = some mM.cls := hown
  have hl : lv_has ls 1 [(0, .int v)] := hl
  refine lv_iload_n hx hb dX7_isSum_0 rfl (lv_at hl 0 rfl) ?_
  refine lv_iconst (v := (nI 1)) hx hb dX7_isSum_1 (by decide) ?_
  refine lv_sipush (v := (nI 999)) hx hb dX7_isSum_2 (by decide) ?_
  refine call_x (va_runS (As := [.int v, .int (nI 1), .int (nI 999)]) (rest := []) ⟨hx, hb, hml, hown, hts⟩ (kX7_isWithin ln dg tq (v := v) (lo := (nI 1)) (hi := (nI 999)) H.size) (va_cwS 3 hts gX7_isSum_X7_isWithin rfl rfl rfl hdX7_isWithin.2 ⟨Nat.le_of_ble_eq_true rfl, Nat.le_of_ble_eq_true rfl⟩) (preS0 hK hN [.int v, .int (nI 1), .int (nI 999)]) rfl rfl hl.1 rfl (lv_room (Nat.le_of_ble_eq_true rfl)) dX7_isSum_5 ⟨Nat.le_refl _, Nat.le_refl _⟩) hP hS hA (fun H locs hP hS => ?_)
  exact hret (bI (inR v (nI 1) (nI 999))) H locs _ ls (rfl) (narrow_bI _) hS dX7_isSum_8
theorem hdX7_isCode : yX7_isCode.cls = RX7 ∧ yX7_isCode.cls ≠ "java/lang/invoke/MethodHandle" ∧ yX7_isCode.cls ≠ "java/lang/invoke/VarHandle" ∧ (parseMethodDescriptor yX7_isCode.desc).map (fun d => d.parameters.length) = some 1 := by decide +kernel
set_option maxHeartbeats 4000000 in
set_option maxRecDepth 100000 in
theorem kX7_isCode (ln : Launch) (dg : va_G) (tq : ClassId × ClassId) (v : Int32) : MR ln yX7_isCode wsX7_isCode (rmm 1 22) dg tq [.int v] [] (fun r => r = (bI (inR v (nI 0) (nI 999)))) := by
  refine MR.enter cX7_isCode 1 .boolean (by decide) rfl rfl (Nat.le_of_ble_eq_true rfl) ?_
  intro pP eE sS mM aA bB mT cC QQ AA hA hAT hret H locs hP hS ls hl
  obtain ⟨hx, hb, hml, hown, hts, hK, hN⟩ := hAT
  have hown : sS.vm.findClass RX7 = some mM.cls := hown
  have hl : lv_has ls 1 [(0, .int v)] := hl
  refine lv_iload_n hx hb dX7_isCode_0 rfl (lv_at hl 0 rfl) ?_
  refine lv_iconst (v := (nI 0)) hx hb dX7_isCode_1 (by decide) ?_
  refine lv_sipush (v := (nI 999)) hx hb dX7_isCode_2 (by decide) ?_
  refine call_x (va_runS (As := [.int v, .int (nI 0), .int (nI 999)]) (rest := []) ⟨hx, hb, hml, hown, hts⟩ (kX7_isWithin ln dg tq (v := v) (lo := (nI 0)) (hi := (nI 999)) H.size) (va_cwS 3 hts gX7_isCode_X7_isWithin rfl rfl rfl hdX7_isWithin.2 ⟨Nat.le_of_ble_eq_true rfl, Nat.le_of_ble_eq_true rfl⟩) (preS0 hK hN [.int v, .int (nI 0), .int (nI 999)]) rfl rfl hl.1 rfl (lv_room (Nat.le_of_ble_eq_true rfl)) dX7_isCode_5 ⟨Nat.le_refl _, Nat.le_refl _⟩) hP hS hA (fun H locs hP hS => ?_)
  exact hret (bI (inR v (nI 0) (nI 999))) H locs _ ls (rfl) (narrow_bI _) hS dX7_isCode_8
theorem hdX7_isSlot : yX7_isSlot.cls = RX7 ∧ yX7_isSlot.cls ≠ "java/lang/invoke/MethodHandle" ∧ yX7_isSlot.cls ≠ "java/lang/invoke/VarHandle" ∧ (parseMethodDescriptor yX7_isSlot.desc).map (fun d => d.parameters.length) = some 1 := by decide +kernel
set_option maxHeartbeats 4000000 in
set_option maxRecDepth 100000 in
theorem kX7_isSlot (ln : Launch) (dg : va_G) (tq : ClassId × ClassId) (v : Int32) : MR ln yX7_isSlot wsX7_isSlot (rmm 1 22) dg tq [.int v] [] (fun r => r = (bI (inR v (nI 0) (nI 1)))) := by
  refine MR.enter cX7_isSlot 1 .boolean (by decide) rfl rfl (Nat.le_of_ble_eq_true rfl) ?_
  intro pP eE sS mM aA bB mT cC QQ AA hA hAT hret H locs hP hS ls hl
  obtain ⟨hx, hb, hml, hown, hts, hK, hN⟩ := hAT
  have hown : sS.vm.findClass RX7 = some mM.cls := hown
  have hl : lv_has ls 1 [(0, .int v)] := hl
  refine lv_iload_n hx hb dX7_isSlot_0 rfl (lv_at hl 0 rfl) ?_
  refine lv_iconst (v := (nI 0)) hx hb dX7_isSlot_1 (by decide) ?_
  refine lv_iconst (v := (nI 1)) hx hb dX7_isSlot_2 (by decide) ?_
  refine call_x (va_runS (As := [.int v, .int (nI 0), .int (nI 1)]) (rest := []) ⟨hx, hb, hml, hown, hts⟩ (kX7_isWithin ln dg tq (v := v) (lo := (nI 0)) (hi := (nI 1)) H.size) (va_cwS 3 hts gX7_isSlot_X7_isWithin rfl rfl rfl hdX7_isWithin.2 ⟨Nat.le_of_ble_eq_true rfl, Nat.le_of_ble_eq_true rfl⟩) (preS0 hK hN [.int v, .int (nI 0), .int (nI 1)]) rfl rfl hl.1 rfl (lv_room (Nat.le_of_ble_eq_true rfl)) dX7_isSlot_3 ⟨Nat.le_refl _, Nat.le_refl _⟩) hP hS hA (fun H locs hP hS => ?_)
  exact hret (bI (inR v (nI 0) (nI 1))) H locs _ ls (rfl) (narrow_bI _) hS dX7_isSlot_6
theorem hdX7_takes : yX7_takes.cls = RX7 ∧ yX7_takes.cls ≠ "java/lang/invoke/MethodHandle" ∧ yX7_takes.cls ≠ "java/lang/invoke/VarHandle" ∧ (parseMethodDescriptor yX7_takes.desc).map (fun d => d.parameters.length) = some 1 := by decide +kernel
set_option maxHeartbeats 4000000 in
set_option maxRecDepth 100000 in
theorem kX7_takes (ln : Launch) (dg : va_G) (tq : ClassId × ClassId) (v : Int32) : MR ln yX7_takes wsX7_takes (rmm 0 0) dg tq [.int v] [] (fun r => r = (bI (decide (v.toInt = 2 ∨ v.toInt = 3)))) := by
  refine MR.enter cX7_takes 1 .boolean (by decide) rfl rfl (Nat.le_of_ble_eq_true rfl) ?_
  intro pP eE sS mM aA bB mT cC QQ AA hA hAT hret H locs hP hS ls hl
  obtain ⟨hx, hb, hml, hown, hts, hK, hN⟩ := hAT
  have hown : sS.vm.findClass RX7 = some mM.cls := hown
  have hl : lv_has ls 1 [(0, .int v)] := hl
  refine lv_iload_n hx hb dX7_takes_0 rfl (lv_at hl 0 rfl) ?_
  refine lv_iconst (v := (nI 2)) hx hb dX7_takes_1 (by decide) ?_
  refine r_icmp_eq (tgt := 10) hx hb rfl (nI_tI (by omega)) dX7_takes_2 (by decide) (fun c2 => ?_) (fun c2 => ?_)
  · skip
    refine lv_iconst (v := (nI 1)) hx hb dX7_takes_10 (by decide) ?_
    refine lv_goto (tgt := 15) hx hb dX7_takes_11 (by decide) ?_
    exact hret (nI 1) H locs _ ls (by first | exact (bI_pos (by omega)).symm | exact (bI_neg (by omega)).symm) rfl hS dX7_takes_15
  · skip
    refine lv_iload_n hx hb dX7_takes_5 rfl (lv_at hl 0 rfl) ?_
    refine lv_iconst (v := (nI 3)) hx hb dX7_takes_6 (by decide) ?_
    refine r_icmp_ne (tgt := 14) hx hb rfl (nI_tI (by omega)) dX7_takes_7 (by decide) (fun c7 => ?_) (fun c7 => ?_)
    · skip
      refine lv_iconst (v := (nI 0)) hx hb dX7_takes_14 (by decide) ?_
      exact hret (nI 0) H locs _ ls (by first | exact (bI_pos (by omega)).symm | exact (bI_neg (by omega)).symm) rfl hS dX7_takes_15
    · skip
      refine lv_iconst (v := (nI 1)) hx hb dX7_takes_10 (by decide) ?_
      refine lv_goto (tgt := 15) hx hb dX7_takes_11 (by decide) ?_
      exact hret (nI 1) H locs _ ls (by first | exact (bI_pos (by omega)).symm | exact (bI_neg (by omega)).symm) rfl hS dX7_takes_15
theorem hdX7_brings : yX7_brings.cls = RX7 ∧ yX7_brings.cls ≠ "java/lang/invoke/MethodHandle" ∧ yX7_brings.cls ≠ "java/lang/invoke/VarHandle" ∧ (parseMethodDescriptor yX7_brings.desc).map (fun d => d.parameters.length) = some 1 := by decide +kernel
set_option maxHeartbeats 4000000 in
set_option maxRecDepth 100000 in
theorem kX7_brings (ln : Launch) (dg : va_G) (tq : ClassId × ClassId) (v : Int32) : MR ln yX7_brings wsX7_brings (rmm 0 0) dg tq [.int v] [] (fun r => r = (bI (decide (1 ≤ v.toInt ∧ v.toInt ≤ 3)))) := by
  refine MR.enter cX7_brings 1 .boolean (by decide) rfl rfl (Nat.le_of_ble_eq_true rfl) ?_
  intro pP eE sS mM aA bB mT cC QQ AA hA hAT hret H locs hP hS ls hl
  obtain ⟨hx, hb, hml, hown, hts, hK, hN⟩ := hAT
  have hown : sS.vm.findClass RX7 = some mM.cls := hown
  have hl : lv_has ls 1 [(0, .int v)] := hl
  refine lv_iload_n hx hb dX7_brings_0 rfl (lv_at hl 0 rfl) ?_
  refine lv_iconst (v := (nI 1)) hx hb dX7_brings_1 (by decide) ?_
  refine r_icmp_eq (tgt := 15) hx hb rfl (nI_tI (by omega)) dX7_brings_2 (by decide) (fun c2 => ?_) (fun c2 => ?_)
  · skip
    refine lv_iconst (v := (nI 1)) hx hb dX7_brings_15 (by decide) ?_
    refine lv_goto (tgt := 20) hx hb dX7_brings_16 (by decide) ?_
    exact hret (nI 1) H locs _ ls (by first | exact (bI_pos (by omega)).symm | exact (bI_neg (by omega)).symm) rfl hS dX7_brings_20
  · skip
    refine lv_iload_n hx hb dX7_brings_5 rfl (lv_at hl 0 rfl) ?_
    refine lv_iconst (v := (nI 2)) hx hb dX7_brings_6 (by decide) ?_
    refine r_icmp_eq (tgt := 15) hx hb rfl (nI_tI (by omega)) dX7_brings_7 (by decide) (fun c7 => ?_) (fun c7 => ?_)
    · skip
      refine lv_iconst (v := (nI 1)) hx hb dX7_brings_15 (by decide) ?_
      refine lv_goto (tgt := 20) hx hb dX7_brings_16 (by decide) ?_
      exact hret (nI 1) H locs _ ls (by first | exact (bI_pos (by omega)).symm | exact (bI_neg (by omega)).symm) rfl hS dX7_brings_20
    · skip
      refine lv_iload_n hx hb dX7_brings_10 rfl (lv_at hl 0 rfl) ?_
      refine lv_iconst (v := (nI 3)) hx hb dX7_brings_11 (by decide) ?_
      refine r_icmp_ne (tgt := 19) hx hb rfl (nI_tI (by omega)) dX7_brings_12 (by decide) (fun c12 => ?_) (fun c12 => ?_)
      · skip
        refine lv_iconst (v := (nI 0)) hx hb dX7_brings_19 (by decide) ?_
        exact hret (nI 0) H locs _ ls (by first | exact (bI_pos (by omega)).symm | exact (bI_neg (by omega)).symm) rfl hS dX7_brings_20
      · skip
        refine lv_iconst (v := (nI 1)) hx hb dX7_brings_15 (by decide) ?_
        refine lv_goto (tgt := 20) hx hb dX7_brings_16 (by decide) ?_
        exact hret (nI 1) H locs _ ls (by first | exact (bI_pos (by omega)).symm | exact (bI_neg (by omega)).symm) rfl hS dX7_brings_20
theorem hdX1_number : yX1_number.cls = RX1 ∧ yX1_number.cls ≠ "java/lang/invoke/MethodHandle" ∧ yX1_number.cls ≠ "java/lang/invoke/VarHandle" ∧ (parseMethodDescriptor yX1_number.desc).map (fun d => d.parameters.length) = some 1 := by decide +kernel
set_option maxHeartbeats 4000000 in
set_option maxRecDepth 100000 in
theorem kX1_number (ln : Launch) (dg : va_G) (tq : ClassId × ClassId) (h0 h1 : Nat) (c : Row) (k : Nat) (hk : k < 5) : MR ln yX1_number wsX1_number (rmm 0 0) dg tq [.ref h0, .int (nI k)] [(h0, .inr (1, [.ref h1])), (h1, .inl (tq.1, 1473, .inl c))] (fun r => r = (c k)) := by
  refine MR.enter cX1_number 2 .int (by decide) rfl rfl (Nat.le_of_ble_eq_true rfl) ?_
  intro pP eE sS mM aA bB mT cC QQ AA hA hAT hret H locs hP hS ls hl
  obtain ⟨hx, hb, hml, hown, hts, hK, hN⟩ := hAT
  have hown : sS.vm.findClass RX1 = some mM.cls := hown
  have hl : lv_has ls 2 [(0, .ref h0), (1, .int (nI k))] := hl
  have in1 : ∀ w ∈ u_ws RX1 TX1 1, w ∈ wsX1_number := (fun _ h9 => List.mem_cons_of_mem _ (List.mem_append_right _ h9))
  have f9 := hts (.fieldLink RX1 9 "OrphanChain$Ledger" "cells" "[I") (List.mem_of_getElem? (i := 1) rfl)
  refine lv_iload_n hx hb dX1_number_0 rfl (lv_at hl 1 rfl) ?_
  refine r_if_lt (tgt := 18) hx hb (nI_tI (by omega)) dX1_number_1 (by decide) (fun c1 => False.elim (by omega)) (fun c1 => ?_)
  refine lv_iload_n hx hb dX1_number_4 rfl (lv_at hl 1 rfl) ?_
  refine lv_iconst (v := (nI 5)) hx hb dX1_number_5 (by decide) ?_
  refine r_icmp_ge (tgt := 18) hx hb (nI_tI (by omega)) (nI_tI (by omega)) dX1_number_6 (by decide) (fun c6 => False.elim (by omega)) (fun c6 => ?_)
  refine lv_aload_n hx hb dX1_number_9 rfl (lv_at hl 0 rfl) ?_
  refine va_get (D := dg) (ci := 1) (v := .ref h1) (C := RX1) (T := TX1) (N := 1) hx hb hts in1 hown hK hP 0 rfl rfl 0 (by decide) f9 (fun _ h9 => h9) rfl dX1_number_10 ?_
  refine lv_iload_n hx hb dX1_number_13 rfl (lv_at hl 1 rfl) ?_
  refine r_iald_n hx hb hK hP 1 rfl (k := k) (by omega) (by decide) dX1_number_14 ?_
  refine lv_goto (tgt := 19) hx hb dX1_number_15 (by decide) ?_
  exact hret (c k) H locs _ ls (rfl) rfl hS dX1_number_19
theorem hdX1_ofEntry : yX1_ofEntry.cls = RX1 ∧ yX1_ofEntry.cls ≠ "java/lang/invoke/MethodHandle" ∧ yX1_ofEntry.cls ≠ "java/lang/invoke/VarHandle" ∧ (parseMethodDescriptor yX1_ofEntry.desc).map (fun d => d.parameters.length) = some 2 := by decide +kernel
set_option maxHeartbeats 4000000 in
set_option maxRecDepth 100000 in
theorem kX1_ofEntry (ln : Launch) (dg : va_G) (tq : ClassId × ClassId) (h0 h1 : Nat) (c : Row) (e f : Nat) (he : e < 60) (hf : f < 7) : MR ln yX1_ofEntry wsX1_ofEntry (rmm 0 0) dg tq [.ref h0, .int (nI e), .int (nI f)] [(h0, .inr (1, [.ref h1])), (h1, .inl (tq.1, 1473, .inl c))] (fun r => r = (c (5 + e * 7 + f))) := by
  refine MR.enter cX1_ofEntry 3 .int (by decide) rfl rfl (Nat.le_of_ble_eq_true rfl) ?_
  intro pP eE sS mM aA bB mT cC QQ AA hA hAT hret H locs hP hS ls hl
  obtain ⟨hx, hb, hml, hown, hts, hK, hN⟩ := hAT
  have hown : sS.vm.findClass RX1 = some mM.cls := hown
  have hl : lv_has ls 3 [(0, .ref h0), (1, .int (nI e)), (2, .int (nI f))] := hl
  have in1 : ∀ w ∈ u_ws RX1 TX1 1, w ∈ wsX1_ofEntry := (fun _ h9 => List.mem_cons_of_mem _ (List.mem_append_right _ h9))
  have f9 := hts (.fieldLink RX1 9 "OrphanChain$Ledger" "cells" "[I") (List.mem_of_getElem? (i := 1) rfl)
  refine lv_iload_n hx hb dX1_ofEntry_0 rfl (lv_at hl 1 rfl) ?_
  refine r_if_lt (tgt := 20) hx hb (nI_tI (by omega)) dX1_ofEntry_1 (by decide) (fun c1 => False.elim (by omega)) (fun c1 => ?_)
  refine lv_iload_n hx hb dX1_ofEntry_4 rfl (lv_at hl 1 rfl) ?_
  refine lv_bipush (v := (nI 60)) hx hb dX1_ofEntry_5 (by decide) ?_
  refine r_icmp_ge (tgt := 20) hx hb (nI_tI (by omega)) (nI_tI (by omega)) dX1_ofEntry_7 (by decide) (fun c7 => False.elim (by omega)) (fun c7 => ?_)
  refine lv_iload_n hx hb dX1_ofEntry_10 rfl (lv_at hl 2 rfl) ?_
  refine r_if_lt (tgt := 20) hx hb (nI_tI (by omega)) dX1_ofEntry_11 (by decide) (fun c11 => False.elim (by omega)) (fun c11 => ?_)
  refine lv_iload_n hx hb dX1_ofEntry_14 rfl (lv_at hl 2 rfl) ?_
  refine lv_bipush (v := (nI 7)) hx hb dX1_ofEntry_15 (by decide) ?_
  refine r_icmp_lt (tgt := 22) hx hb (nI_tI (by omega)) (nI_tI (by omega)) dX1_ofEntry_17 (by decide) (fun c17 => ?_) (fun c17 => False.elim (by omega))
  refine lv_aload_n hx hb dX1_ofEntry_22 rfl (lv_at hl 0 rfl) ?_
  refine va_get (D := dg) (ci := 1) (v := .ref h1) (C := RX1) (T := TX1) (N := 1) hx hb hts in1 hown hK hP 0 rfl rfl 0 (by decide) f9 (fun _ h9 => h9) rfl dX1_ofEntry_23 ?_
  refine lv_iconst (v := (nI 5)) hx hb dX1_ofEntry_26 (by decide) ?_
  refine lv_iload_n hx hb dX1_ofEntry_27 rfl (lv_at hl 1 rfl) ?_
  refine lv_bipush (v := (nI 7)) hx hb dX1_ofEntry_28 (by decide) ?_
  refine r_imul_n hx hb dX1_ofEntry_30 ?_
  refine r_iadd_n hx hb dX1_ofEntry_31 ?_
  refine lv_iload_n hx hb dX1_ofEntry_32 rfl (lv_at hl 2 rfl) ?_
  refine r_iadd_n hx hb dX1_ofEntry_33 ?_
  refine r_iald_n hx hb hK hP 1 rfl (k := ((5 + (e * 7)) + f)) (by omega) (by decide) dX1_ofEntry_34 ?_
  exact hret (c ((5 + (e * 7)) + f)) H locs _ ls (rfl) rfl hS dX1_ofEntry_35
theorem hdX1_isOnPath : yX1_isOnPath.cls = RX1 ∧ yX1_isOnPath.cls ≠ "java/lang/invoke/MethodHandle" ∧ yX1_isOnPath.cls ≠ "java/lang/invoke/VarHandle" ∧ (parseMethodDescriptor yX1_isOnPath.desc).map (fun d => d.parameters.length) = some 2 := by decide +kernel
set_option maxHeartbeats 4000000 in
set_option maxRecDepth 100000 in
theorem kX1_isOnPath (ln : Launch) (dg : va_G) (tq : ClassId × ClassId) (h0 h1 : Nat) (c : Row) (s : Row) (hR : XR s c) (hW : WF s) (x y : Nat) (hx : x < nE s) (hy : y < nE s) : MR ln yX1_isOnPath wsX1_isOnPath (rmm 1 22) dg tq [.ref h0, .int (nI x), .int (nI y)] [(h0, .inr (1, [.ref h1])), (h1, .inl (tq.1, 1473, .inl c))] (fun r => r = (bI (onP s x y))) := by
  refine MR.enter cX1_isOnPath 5 .boolean (by decide) rfl rfl (Nat.le_of_ble_eq_true rfl) ?_
  intro pP eE sS mM aA bB mT cC QQ AA hA hAT hret H locs hP hS ls hl
  obtain ⟨hx, hb, hml, hown, hts, hK, hN⟩ := hAT
  have hown : sS.vm.findClass RX1 = some mM.cls := hown
  have hl : lv_has ls 5 [(0, .ref h0), (1, .int (nI x)), (2, .int (nI y))] := hl
  have hn60 := hW.n60
  refine lv_iload_n hx hb dX1_isOnPath_0 rfl (lv_at hl 2 rfl) ?_
  refine lv_istore_n (lv' := [(3, .int (nI y)), (0, .ref h0), (1, .int (nI x)), (2, .int (nI y))]) hx hb dX1_isOnPath_1 rfl hl (by decide) rfl (fun ls hl => ?_)
  refine lv_iconst (v := (nI 0)) hx hb dX1_isOnPath_2 (by decide) ?_
  refine lv_istore (lv' := [(4, .int (nI 0)), (3, .int (nI y)), (0, .ref h0), (1, .int (nI x)), (2, .int (nI y))]) hx hb dX1_isOnPath_3 hl (by decide) rfl (fun ls hl => ?_)
  have loop5 : ∀ (fu : Nat) (at_ : Nat) (st_ : Nat) (H : Heap) (locs : List Loc) (ls : Array Slot), (onP s x y = onP s x at_ ∧ at_ + st_ ≤ y) → at_ < fu → va_P dg vwCl [(h0, .inr (1, [.ref h1])), (h1, .inl (tq.1, 1473, .inl c))] H → va_S AA sS.heap H locs → lv_has ls 5 [(0, .ref h0), (1, .int (nI x)), (2, .int (nI y)), (3, .int (nI at_)), (4, .int (nI st_))] → W pP ln eE (rmm 1 22) sS mM aA bB mT cC H locs 0 0 QQ (F0 mM 5 ls []) := by
    intro fu
    induction fu with
    | zero => intro at_ st_ H locs ls _ hm; exact absurd hm (Nat.not_lt_zero _)
    | succ fu ih5 =>
      intro at_ st_ H locs ls hinv hm hP hS hl
      obtain ⟨hi1, hi2⟩ := hinv
      refine lv_iload hx hb dX1_isOnPath_5 (lv_at hl 4 rfl) ?_
      refine lv_bipush (v := (nI 60)) hx hb dX1_isOnPath_7 (by decide) ?_
      refine r_icmp_ge (tgt := 30) hx hb (nI_tI (by omega)) (nI_tI (by omega)) dX1_isOnPath_9 (by decide) (fun c9 => False.elim (by have := hW.n60; omega)) (fun c9 => ?_)
      refine lv_iload_n hx hb dX1_isOnPath_12 rfl (lv_at hl 3 rfl) ?_
      refine lv_iload_n hx hb dX1_isOnPath_13 rfl (lv_at hl 1 rfl) ?_
      refine r_icmp_le (tgt := 30) hx hb (nI_tI (by omega)) (nI_tI (by omega)) dX1_isOnPath_14 (by decide) (fun c14 => ?_) (fun c14 => ?_)
      · skip
        refine lv_iload_n hx hb dX1_isOnPath_30 rfl (lv_at hl 3 rfl) ?_
        refine lv_iload_n hx hb dX1_isOnPath_31 rfl (lv_at hl 1 rfl) ?_
        refine r_icmp_ne (tgt := 39) hx hb (nI_tI (by omega)) (nI_tI (by omega)) dX1_isOnPath_32 (by decide) (fun c32 => ?_) (fun c32 => ?_)
        · skip
          refine lv_iconst (v := (nI 0)) hx hb dX1_isOnPath_39 (by decide) ?_
          exact hret (nI 0) H locs _ ls (by rw [hi1, onP_le (by omega)]; first | exact (bI_pos (by omega)).symm | exact (bI_neg (by omega)).symm) rfl hS dX1_isOnPath_40
        · skip
          refine lv_iconst (v := (nI 1)) hx hb dX1_isOnPath_35 (by decide) ?_
          refine lv_goto (tgt := 40) hx hb dX1_isOnPath_36 (by decide) ?_
          exact hret (nI 1) H locs _ ls (by rw [hi1, onP_le (by omega)]; first | exact (bI_pos (by omega)).symm | exact (bI_neg (by omega)).symm) rfl hS dX1_isOnPath_40
      · skip
        refine lv_aload_n hx hb dX1_isOnPath_17 rfl (lv_at hl 0 rfl) ?_
        refine lv_iload_n hx hb dX1_isOnPath_18 rfl (lv_at hl 3 rfl) ?_
        refine lv_iconst (v := (nI 4)) hx hb dX1_isOnPath_19 (by decide) ?_
        refine call_x (va_runV (As := [.int (nI at_), .int (nI 4)]) (rest := []) ⟨hx, hb, hml, hown, hts⟩ (kX1_ofEntry ln dg tq (h0 := h0) (h1 := h1) (c := c) (e := at_) (f := 4) (he := (by omega)) (hf := (by omega)) H.size) (cwV 2 hts gX1_isOnPath_X1_ofEntry rfl rfl rfl hdX1_ofEntry ⟨Nat.le_of_ble_eq_true rfl, Nat.le_of_ble_eq_true rfl⟩) (preVR hK hN hP [0, 1] rfl 0 rfl rfl [.int (nI at_), .int (nI 4)]) rfl rfl hl.1 rfl (lv_room (Nat.le_of_ble_eq_true rfl)) dX1_isOnPath_20 ⟨Nat.le_refl _, Nat.le_refl _⟩) hP hS hA (fun H locs hP hS => ?_)
        refine r_top (show (c (5 + at_ * 7 + 4)) = (nI (pa s at_)) from hR.pa hW (by omega) (by omega)) ?_
        refine lv_istore_n (lv' := [(3, .int (nI (pa s at_))), (0, .ref h0), (1, .int (nI x)), (2, .int (nI y)), (4, .int (nI st_))]) hx hb dX1_isOnPath_23 rfl hl (by decide) rfl (fun ls hl => ?_)
        refine lv_iinc (v := (nI (st_ + 1))) (lv' := [(4, .int (nI (st_ + 1))), (3, .int (nI (pa s at_))), (0, .ref h0), (1, .int (nI x)), (2, .int (nI y))]) hx hb dX1_isOnPath_24 hl (k := 4) rfl (nI_add _ _) (by decide) rfl (fun ls hl => ?_)
        refine lv_goto (tgt := 5) hx hb dX1_isOnPath_27 (by decide) ?_
        exact ih5 (pa s at_) (st_ + 1) H locs ls (⟨by rw [hi1, onP_s hW (by omega) (by omega)], by have := hW.pl (e := at_) (by omega) (by omega); omega⟩) (by have := hW.pl (e := at_) (by omega) (by omega); omega) (hP.sub [0, 1] rfl) hS (lv_sub hl [2, 3, 4, 1, 0] rfl)
  exact loop5 _ y 0 H locs ls (⟨rfl, by omega⟩) (Nat.lt_succ_self _) (hP.sub [0, 1] rfl) hS (lv_sub hl [2, 3, 4, 1, 0] rfl)
